/-! act: the reference keeps the past -/
section SC28
theorem keep_B {J : MI} {c : Nat} (hc : c < 6) (h3 : J 207 3 = nn c) : ∃ H, K_R_keepsAhead_55 0 J = some ((), bup (bup J 209 H) 207 (upd (J 207) 3 (nn (c + 1)))) ∧ (∀ i, i < 95 * c → H i = J 209 i) ∧ ∀ k, k < 95 → H (95 * c + k) = J 208 k := by
  have hl := ok_lp (body := B_R_keepsAhead_55) (Q := fun (_ : Unit) K => ∃ H, K = bup (bup J 209 H) 207 (upd (J 207) 3 (nn (c + 1))) ∧ (∀ i, i < 95 * c → H i = J 209 i) ∧ ∀ k, k < 95 → H (95 * c + k) = J 208 k) (fun k x K => x = nn k ∧ ∃ H, K = bup J 209 H ∧ (∀ i, i < 95 * c → H i = J 209 i) ∧ ∀ i, i < k → H (95 * c + i) = J 208 i) 95
    (fun k x K hk hi => by
      obtain ⟨rfl, H, rfl, q1, q2⟩ := hi
      have e1 : inR (nn k) 95 = true := inR_nn hk (by omega)
      have e2 : (nn k).toNatClampNeg = k := nn_nat (by omega)
      have e3 : nn k < 95 := (nn_lt (k := 95) (by omega) (by omega)).mpr hk
      have e4 : (95 : Int32) * nn c + nn k = nn (95 * c + k) := (congrArg (fun x => x + nn k) (nn_mul 95 c)).trans (nn_add (95 * c) k)
      have e5 : inR (nn (95 * c + k)) 570 = true := inR_nn (by omega) (by omega)
      have e6 : (nn (95 * c + k)).toNatClampNeg = 95 * c + k := nn_nat (by omega)
      have g0 : (bup J 209 H) 207 3 = nn c := by rw [bup_ne _ _ (by decide)]; exact h3
      have g1 : (bup J 209 H) 208 = J 208 := bup_ne _ _ (by decide)
      unfold B_R_keepsAhead_55
      simp only [ok_bn, ok_ite, if_pos e3, ok_rd, g0, e4, ok_ld, e5, e6, ok_sr, ok_rt, e1, e2, true_and, g1, bup_eq, bup_bup]
      refine ⟨nn_s k, _, rfl, fun i hi => ?_, fun i hi => ?_⟩
      · rw [upd_ne _ _ (by omega)]; exact q1 i hi
      · by_cases hik : i = k
        · subst hik; rw [upd_eq]
        · rw [upd_ne _ _ (by omega)]; exact q2 i (by omega))
    (fun x K hi => by
      obtain ⟨rfl, H, rfl, q1, q2⟩ := hi
      have e3 : ¬ nn 95 < 95 := by decide
      have g0 : (bup J 209 H) 207 = J 207 := bup_ne _ _ (by decide)
      unfold B_R_keepsAhead_55
      simp (decide := true) only [ok_bn, ok_ite, if_neg e3, ok_rd, ok_wr, ok_rt, g0, h3]
      rw [nn_s c]
      exact ⟨H, rfl, q1, q2⟩) FU 0 J (by rw [FU_eq]; omega) ⟨rfl, J 209, (bup_self J 209).symm, fun i _ => rfl, fun i hi => absurd hi (by omega)⟩
  obtain ⟨x, K, h1, H, rfl, q1, q2⟩ := hl
  exact ⟨H, h1, q1, q2⟩
end SC28
