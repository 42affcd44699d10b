/-! act: the reference keeps the past, put together -/
section SC29
theorem shift_R {J : MI} {c : Nat} (hc : c < 6) (h3 : J 207 3 = nn c) : ∃ H, lp B_R_keepsAhead_21 FU 0 J = some ((), bup J 209 H) ∧ ∀ i, i < 95 * c → i + 95 < 570 → H i = J 209 (i + 95) := by
  have hl := ok_lp (body := B_R_keepsAhead_21) (Q := fun (_ : Unit) K => ∃ H, K = bup J 209 H ∧ ∀ i, i < 95 * c → i + 95 < 570 → H i = J 209 (i + 95)) (fun k x K => x = nn k ∧ ∃ H, K = bup J 209 H ∧ (∀ i, i < k → H i = J 209 (i + 95)) ∧ ∀ i, k ≤ i → H i = J 209 i) (95 * c)
    (fun k x K hk hi => by
      obtain ⟨rfl, H, rfl, q1, q2⟩ := hi
      have e1 : inR (nn k) 570 = true := inR_nn (by omega) (by omega)
      have e2 : (nn k).toNatClampNeg = k := nn_nat (by omega)
      have e4 : nn k + (95 : Int32) = nn (k + 95) := nn_add k 95
      have e5 : inR (nn (k + 95)) 570 = true := inR_nn (by omega) (by omega)
      have e6 : (nn (k + 95)).toNatClampNeg = k + 95 := nn_nat (by omega)
      have e7 : (95 : Int32) * nn c = nn (95 * c) := nn_mul 95 c
      have e3 : nn k < nn (95 * c) := (nn_lt (by omega) (by omega)).mpr hk
      have g0 : (bup J 209 H) 207 3 = nn c := by rw [bup_ne _ _ (by decide)]; exact h3
      unfold B_R_keepsAhead_21
      simp only [ok_bn, ok_rd, g0, e7, ok_ite, if_pos e3, e4, ok_ld, e5, e6, ok_sr, ok_rt, e1, e2, true_and, bup_eq, bup_bup]
      refine ⟨nn_s k, _, rfl, fun i hi => ?_, fun i hi => ?_⟩
      · by_cases hik : i = k
        · subst hik; rw [upd_eq, q2 _ (by omega)]
        · rw [upd_ne _ _ hik]; exact q1 i (by omega)
      · rw [upd_ne _ _ (by omega)]; exact q2 i (by omega))
    (fun x K hi => by
      obtain ⟨rfl, H, rfl, q1, q2⟩ := hi
      have e7 : (95 : Int32) * nn c = nn (95 * c) := nn_mul 95 c
      have e3 : ¬ nn (95 * c) < nn (95 * c) := fun q => by have := (nn_lt (by omega) (by omega)).mp q; omega
      have g0 : (bup J 209 H) 207 3 = nn c := by rw [bup_ne _ _ (by decide)]; exact h3
      unfold B_R_keepsAhead_21
      simp only [ok_bn, ok_rd, g0, e7, ok_ite, if_neg e3, ok_rt]
      exact ⟨H, rfl, fun i hi _ => q1 i hi⟩) FU 0 J (by rw [FU_eq]; omega) ⟨rfl, J 209, (bup_self J 209).symm, fun i hi => absurd hi (by omega), fun i _ => rfl⟩
  obtain ⟨x, K, h1, H, rfl, q1⟩ := hl
  exact ⟨H, h1, q1⟩
end SC29
