/-! the past is kept by both; act -/
section SC36
theorem rW_cg {I : MI} {w : Nat} {R S : Nat → Int32} (g : ∀ k, k < 95 → S k = R k) (h : rW I w R) : rW I w S := by
  obtain ⟨a1, a2, a3, a4, a5, a6, a7, a8, a9, a10, a11, a12, a13⟩ := h
  exact ⟨(g _ (by decide)).trans a1, (g _ (by decide)).trans a2, (g _ (by decide)).trans a3, (g _ (by decide)).trans a4, (g _ (by decide)).trans a5, (g _ (by decide)).trans a6, (g _ (by decide)).trans a7, fun k hk => (g _ (by omega)).trans (a8 k hk), fun k hk => (g _ (by omega)).trans (a9 k hk), fun k hk => (g _ (by omega)).trans (a10 k hk), fun k hk => (g _ (by omega)).trans (a11 k hk), fun k hk => (g _ (by omega)).trans (a12 k hk), fun k hk => (g _ (by omega)).trans (a13 k hk)⟩
theorem keep_R {J : MI} {c : Nat} (hc : c ≤ 6) (h3 : J 207 3 = nn c) : ∃ H, F_R_keepsAhead J = some ((), bup (bup J 209 H) 207 (upd (J 207) 3 (nn (min (c + 1) 6)))) ∧ (∀ r k, r < min c 5 → k < 95 → H (95 * r + k) = J 209 (95 * (r + (c - min c 5)) + k)) ∧ ∀ k, k < 95 → H (95 * min c 5 + k) = J 208 k := by
  by_cases h6 : c = 6
  · subst h6
    rw [show min 6 5 = 5 by decide, show min (6 + 1) 6 = 6 by decide]
    have n6 : nn 6 - 1 = nn 5 := nn_sub (j := 6) (k := 1) (by decide)
    obtain ⟨H1, e1, q1⟩ := shift_R (J := bup J 207 (upd (J 207) 3 (nn 5))) (c := 5) (by decide) (by rw [bup_eq, upd_eq])
    obtain ⟨H2, e2, q2, q3⟩ := keep_B (J := bup (bup J 207 (upd (J 207) 3 (nn 5))) 209 H1) (c := 5) (by decide) (by rw [bup_ne _ _ (by decide), bup_eq, upd_eq])
    refine ⟨H2, ?_, fun r k hr hk => ?_, fun k hk => ?_⟩
    · have hO : Ok F_R_keepsAhead J fun _ K => K = bup (bup J 209 H2) 207 (upd (J 207) 3 (nn 6)) := by
        unfold F_R_keepsAhead K_R_keepsAhead_21 K_R_keepsAhead_53
        simp (decide := true) only [ok_bn, ok_rd, ok_wr, ok_ite, h3, if_true, n6, ok_eq e1, ok_eq e2]
        funext a
        by_cases a1 : a = 207
        · subst a1
          rw [bup_eq, bup_eq, bup_ne _ _ (by decide), bup_eq]
          funext k
          by_cases k3 : k = 3
          · subst k3; rw [upd_eq, upd_eq]
          · rw [upd_ne _ _ k3, upd_ne _ _ k3, upd_ne _ _ k3]
        · rw [bup_ne _ _ a1, bup_ne _ _ a1]
          by_cases a2 : a = 209
          · subst a2; rw [bup_eq, bup_eq]
          · rw [bup_ne _ _ a2, bup_ne _ _ a2, bup_ne _ _ a1, bup_ne _ _ a2]
      obtain ⟨_, K, h, rfl⟩ := hO
      exact h
    · have hr2 : r < 5 := by omega
      have i1 : 95 * r + k < 95 * 5 := by omega
      have i2 : 95 * r + k + 95 < 570 := by omega
      have i3 : 95 * r + k + 95 = 95 * (r + (6 - 5)) + k := by omega
      have e3 := q1 (95 * r + k) i1 i2
      rw [bup_ne _ _ (by decide), i3] at e3
      have e4 := q2 (95 * r + k) i1
      rw [bup_eq] at e4
      exact e4.trans e3
    · have e := q3 k hk
      rw [bup_ne _ _ (by decide), bup_ne _ _ (by decide)] at e
      exact e
  · have n6 : ¬ nn c = 6 := nn_ne (k := 6) (by omega) (by omega) h6
    obtain ⟨H, e1, q1, q2⟩ := keep_B (J := J) (c := c) (by omega) h3
    have m5 : min c 5 = c := by omega
    have m6 : min (c + 1) 6 = c + 1 := by omega
    rw [m5, m6]
    refine ⟨H, ?_, fun r k hr hk => ?_, q2⟩
    · have hO : Ok F_R_keepsAhead J fun _ K => K = bup (bup J 209 H) 207 (upd (J 207) 3 (nn (c + 1))) := by
        unfold F_R_keepsAhead K_R_keepsAhead_53
        simp only [ok_bn, ok_rd, ok_ite, h3, if_neg n6, ok_eq e1]
      obtain ⟨_, K, h, rfl⟩ := hO
      exact h
    · rw [q1 _ (by omega), Nat.sub_self, Nat.add_zero]
end SC36
