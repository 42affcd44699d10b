/-! undo -/
section SC25
theorem back_R {J : MI} {c : Nat} (hc : c < 6) (h3 : J 207 3 = nn c) : ∃ h, K_R_undo_26 0 J = some (1, bup J 208 h) ∧ ∀ k, k < 95 → h k = J 209 (95 * c + k) := by
  have hl := ok_lp (body := B_R_undo_26) (Q := fun v K => v = 1 ∧ ∃ h, K = bup J 208 h ∧ ∀ i, i < 95 → h i = J 209 (95 * c + i)) (fun k x K => x = nn k ∧ ∃ h, K = bup J 208 h ∧ ∀ i, i < k → h i = J 209 (95 * c + i)) 95
    (fun k x K hk hi => by
      obtain ⟨rfl, h, rfl, hh⟩ := hi
      have e1 : inR (nn k) 95 = true := inR_nn hk (by omega)
      have e2 : (nn k).toNatClampNeg = k := nn_nat (by omega)
      have e3 : nn k < 95 := (nn_lt (k := 95) (by omega) (by omega)).mpr hk
      have e4 : (95 : Int32) * nn c + nn k = nn (95 * c + k) := (congrArg (fun x => x + nn k) (nn_mul 95 c)).trans (nn_add (95 * c) k)
      have e5 : inR (nn (95 * c + k)) 570 = true := inR_nn (by omega) (by omega)
      have e6 : (nn (95 * c + k)).toNatClampNeg = 95 * c + k := nn_nat (by omega)
      have g0 : (bup J 208 h) 207 3 = nn c := by rw [bup_ne _ _ (by decide)]; exact h3
      have g1 : (bup J 208 h) 209 = J 209 := bup_ne _ _ (by decide)
      unfold B_R_undo_26
      simp only [ok_bn, ok_ite, if_pos e3, ok_rd, g0, e4, ok_ld, e5, e6, ok_sr, ok_rt, e1, e2, true_and, g1, bup_eq, bup_bup]
      refine ⟨nn_s k, _, rfl, fun i hi => ?_⟩
      by_cases hik : i = k
      · subst hik; rw [upd_eq]
      · rw [upd_ne _ _ hik]; exact hh i (by omega))
    (fun x K hi => by
      obtain ⟨rfl, h, rfl, hh⟩ := hi
      have e3 : ¬ nn 95 < 95 := by decide
      unfold B_R_undo_26
      simp (decide := true) only [ok_bn, ok_ite, if_neg e3, ok_gdZ, ok_rt, true_and]
      exact ⟨h, rfl, hh⟩) FU 0 J (by rw [FU_eq]; omega) ⟨rfl, J 208, (bup_self J 208).symm, fun i hi => absurd hi (by omega)⟩
  obtain ⟨x, K, h1, rfl, h, rfl, hh⟩ := hl
  exact ⟨h, h1, hh⟩
theorem pre_6 : ∀ n, n < 6 → (nn n + 6 - 1) - (nn n + 6 - 1) / 6 * 6 = nn ((n + 5) % 6) ∧ inR (nn ((n + 5) % 6)) 6 = true ∧ (nn ((n + 5) % 6)).toNatClampNeg = (n + 5) % 6 := by decide
theorem bcS_f {I : MI} {r0 r1 j k : Nat} (hk : k < 9) : bcS I r0 r1 j r0 k = I r1 k := by
  unfold bcS
  rw [if_pos rfl, if_pos hk]
theorem bcS_r {I : MI} {r0 r1 j k : Nat} (i : Nat) (h0 : 0 < i) (hi : i ≤ j) (hk : k < lnW i) : bcS I r0 r1 j (r0 + i) k = I (r1 + i) k := by
  unfold bcS
  rw [if_neg (by omega), if_pos (by omega), show r0 + i - r0 = i by omega, if_pos hk]
theorem bcS_o {I : MI} {r0 r1 j a : Nat} (h : a < r0 ∨ r0 + j < a) : bcS I r0 r1 j a = I a := by
  unfold bcS
  rw [if_neg (by omega), if_neg (by omega)]
/-- the relation of a world goes over -/
theorem rW_bc {I : MI} {r0 r1 : Nat} {R : Nat → Int32} (h : rW I r1 R) : rW (bcS I r0 r1 10) r0 R := by
  obtain ⟨a1, a2, a3, a4, a5, a6, a7, a8, a9, a10, a11, a12, a13⟩ := h
  unfold rW
  rw [bcS_f (k := 5) (by decide), bcS_f (k := 4) (by decide), bcS_f (k := 0) (by decide), bcS_f (k := 6) (by decide), bcS_f (k := 1) (by decide), bcS_f (k := 2) (by decide), bcS_f (k := 3) (by decide)]
  exact ⟨a1, a2, a3, a4, a5, a6, a7, fun k hk => (a8 k hk).trans (bcS_r 1 (by decide) (by decide) hk).symm, fun k hk => (a9 k hk).trans (bcS_r 3 (by decide) (by decide) hk).symm, fun k hk => (a10 k hk).trans (bcS_r 7 (by decide) (by decide) hk).symm, fun k hk => (a11 k hk).trans (bcS_r 8 (by decide) (by decide) hk).symm, fun k hk => (a12 k hk).trans (bcS_r 9 (by decide) (by decide) hk).symm, fun k hk => (a13 k hk).trans (bcS_r 10 (by decide) (by decide) hk).symm⟩
theorem rS_bc {I : MI} {r0 r1 : Nat} {np na : Int32} {wi pe ra ho : Nat → Int32} (h : rS I r1 np na wi pe ra ho) : rS (bcS I r0 r1 10) r0 np na wi pe ra ho := by
  obtain ⟨a1, a2, a3, a4, a5, a6⟩ := h
  unfold rS
  rw [bcS_f (k := 7) (by decide), bcS_f (k := 8) (by decide)]
  exact ⟨a1, a2, fun k hk => (a3 k hk).trans (bcS_r 2 (by decide) (by decide) hk).symm, fun k hk => (a4 k hk).trans (bcS_r 4 (by decide) (by decide) hk).symm, fun k hk => (a5 k hk).trans (bcS_r 5 (by decide) (by decide) hk).symm, fun k hk => (a6 k hk).trans (bcS_r 6 (by decide) (by decide) hk).symm⟩
theorem bW_bc {I : MI} {r0 r1 np na : Nat} (h : bW I r1 np na) : bW (bcS I r0 r1 10) r0 np na := by
  obtain ⟨a1, a2, a3, a4, a5, a6, a7, a8, a9, a10, a11, a12⟩ := h
  unfold bW
  rw [bcS_f (k := 7) (by decide), bcS_f (k := 8) (by decide), bcS_f (k := 4) (by decide), bcS_f (k := 6) (by decide)]
  have l18 : ∀ a, a < na → a < 18 := fun a h => by omega
  refine ⟨a1, a2, a3, a4, a5, a6, fun a h => ?_, fun a h => ?_, fun a h => ?_, fun a h => ?_, fun a h => ?_, fun a h => ?_⟩
  · rw [bcS_r 4 (by decide) (by decide) (l18 a h)]; exact a7 a h
  · rw [bcS_r 6 (by decide) (by decide) (l18 a h)]; exact a8 a h
  · rw [bcS_r 7 (by decide) (by decide) (l18 a h)]; exact a9 a h
  · rw [bcS_r 8 (by decide) (by decide) h]; exact a10 a h
  · rw [bcS_r 10 (by decide) (by decide) h]; exact a11 a h
  · rw [bcS_r 3 (by decide) (by decide) h]; exact a12 a h
end SC25
