/-! persons, aliases, settings -/
section SC3
theorem rDia_mono {np na np2 na2 : Nat} {a b c d : Int32} (h1 : np ≤ np2) (h2 : na ≤ na2) (h : rDia np na a b c d) : rDia np2 na2 a b c d := by
  rcases h with ⟨e1, e2, ⟨x, q, e⟩, r⟩ | ⟨e1, e2, ⟨x, q, e⟩, r⟩ | ⟨e1, e2, x, q, e⟩ | h
  · exact Or.inl ⟨e1, e2, ⟨x, by omega, e⟩, r⟩
  · exact Or.inr (Or.inl ⟨e1, e2, ⟨x, by omega, e⟩, r⟩)
  · exact Or.inr (Or.inr (Or.inl ⟨e1, e2, x, by omega, e⟩))
  · exact Or.inr (Or.inr (Or.inr h))
/-- the diary's lines stay good where there are more -/
theorem dia_more {I J I1 J1 : MI} {t w np na : Nat} (h : bDia I t w J) (ht : ∀ c, t ≤ c → c < t + 2 → I1 c = I c) (hf : J1 207 38 = J 207 38) (h1 : J1 227 = J 227) (e7 : I1 w 7 = nn np) (e8 : I1 w 8 = nn na) (hnp : np ≤ 6) (hna : na ≤ 18) (m : ∀ np0 na0, I w 7 = nn np0 → np0 ≤ 6 → I w 8 = nn na0 → na0 ≤ 18 → np0 ≤ np ∧ na0 ≤ na) : bDia I1 t w J1 := by
  obtain ⟨n, a1, a2, a3, np0, na0, a4, a5, a6, a7, a8⟩ := h
  have hm := m np0 na0 a4 a5 a6 a7
  refine ⟨n, a1, by rw [ht t (by omega) (by omega)]; exact a2, by rw [hf]; exact a3, np, na, e7, hnp, e8, hna, fun i hi => ?_⟩
  rw [ht (t + 1) (by omega) (by omega), h1]
  obtain ⟨b1, b2, b3, b4, b5⟩ := a8 i hi
  exact ⟨b1, b2, b3, b4, rDia_mono hm.1 hm.2 b5⟩
theorem k_rW2 {I I1 : MI} {w : Nat} {R : Nat → Int32} (hf : ∀ f, f < 7 → I1 w f = I w f) (h1 : I1 (w + 1) = I (w + 1)) (h3 : I1 (w + 3) = I (w + 3)) (h7 : I1 (w + 7) = I (w + 7)) (h8 : I1 (w + 8) = I (w + 8)) (h9 : I1 (w + 9) = I (w + 9)) (h10 : I1 (w + 10) = I (w + 10)) (k : rW I w R) : rW I1 w R := by
  unfold rW at k ⊢
  rw [hf 5 (by decide), hf 4 (by decide), hf 0 (by decide), hf 6 (by decide), hf 1 (by decide), hf 2 (by decide), hf 3 (by decide), h1, h3, h7, h8, h9, h10]
  exact k
theorem upd_congr {f g : Nat → Int32} {n j : Nat} {x : Int32} (h : ∀ k, k < n → f k = g k) : ∀ k, k < n → upd f j x k = upd g j x k := by
  intro k hk
  by_cases e : k = j
  · subst e; rw [upd_eq, upd_eq]
  · rw [upd_ne _ _ e, upd_ne _ _ e]; exact h k hk
theorem c_person (x y : Int32) : Call (F_A_person x y) (F_R_person x y) := by
  refine call_of fun I J hr => ?_
  obtain ⟨⟨k1, -, -, -, k5, -⟩, -, kp, -⟩ := id hr
  obtain ⟨r1, r2, np, na, r3⟩ := k1
  obtain ⟨w7, h6, w8, h18, w4, w6, wp, wh, wi, wo, ws, wu⟩ := id r3
  have j6 : J 207 6 = nn np := r2.1.trans w7
  unfold F_A_person F_World_addPerson F_R_person F_A_forget
  rcases rng (v := x) 0 9 (by decide) (by decide) with ⟨a, -, a2, rfl⟩ | out
  · have q := rng_in (a := 0) (b := 9) (by decide) (Nat.zero_le a) a2
    have wA : F_A_within (nn a) 0 9 = rt 1 := wi_in q.1 q.2
    have wR : F_R_isIn (nn a) 0 9 = rt 1 := ri_in q.1 q.2
    rcases rng (v := y) 0 9999 (by decide) (by decide) with ⟨b, -, b2, rfl⟩ | out2
    · have q2 := rng_in (a := 0) (b := 9999) (by decide) (Nat.zero_le b) b2
      have wA2 : F_A_within (nn b) 0 9999 = rt 1 := wi_in q2.1 q2.2
      have wR2 : F_R_isIn (nn b) 0 9999 = rt 1 := ri_in q2.1 q2.2
      by_cases hf : np = 6
      · subst hf
        have e6 : J 207 6 = 6 := j6
        have e7 : ¬ I 2 7 < 6 := by rw [w7]; decide
        simp (decide := true) only [ok_bn, ok_wr, ok_rd, ok_rt, ok_ite, ok_sr, wA, wR, wA2, wR2, e6, e7, bup_eq, bup_ne, upd_eq, upd_ne, if_true, if_false, true_and]
        exact rl_told hr
      · have hlt : np < 6 := by omega
        have e6 : ¬ nn np = 6 := nn_ne (by omega) (by decide) hf
        have e7 : nn np < 6 := (nn_lt (j := np) (k := 6) (by omega) (by decide)).mpr hlt
        have i6 : inR (nn np) 6 = true := inR_nn hlt (by omega)
        have t6 : (nn np).toNatClampNeg = np := nn_nat (by omega)
        have e17 : 17 + nn np = nn (17 + np) := nn_add 17 np
        have i17 : inR (nn (17 + np)) 95 = true := inR_nn (by omega) (by omega)
        have t17 : (nn (17 + np)).toNatClampNeg = 17 + np := nn_nat (by omega)
        have m1 : ¬ nn np + 1 - 1 = -1 := by
          rw [nn_s, show (1 : Int32) = nn 1 from rfl, nn_sub (by omega)]
          intro h
          have := congrArg Int32.toInt h
          rw [nn_toInt (by omega)] at this
          have e : (-(nn 1)).toInt = -1 := rfl
          omega
        simp (decide := true) only [ok_bn, ok_wr, ok_rd, ok_rt, ok_ite, ok_sr, wA, wR, wA2, wR2, w7, j6, e6, e7, i6, t6, e17, i17, t17, m1, bup_eq, bup_ne, upd_eq, upd_ne, if_true, if_false, true_and]
        refine rl_f [0, 2, 4, 5] [208, 211] [0, 3, 6] hr ?_ ?_ ?_ rfl rfl rfl rfl ?_ ?_ rfl
        · exact ui_bup (ui_bup (ui_bup (ui_bup (ui_refl _ _) rfl) rfl) rfl) rfl
        · exact uj_fld (uj_fld (uj_bup (uj_bup (uj_fld (uj_refl _ _ _) rfl) rfl (by decide)) rfl (by decide)) rfl) rfl
        · exact ut_bup (ut_bup (ut_bup (ut_bup (ut_refl _) rfl) rfl) rfl) rfl
        · refine ⟨?_, ?_, np + 1, na, ?_⟩
          · have z := rW_a3 (k := np) (x := nn b) (by omega) r1
            refine k_rW2 (I := bup I 5 (upd (I 5) np (nn b))) (w := 2) (fun f hf => ?_) ?_ ?_ ?_ ?_ ?_ ?_ z
            · simp (decide := true) only [bup_eq, bup_ne]
              exact upd_ne _ _ (by omega)
            all_goals simp (decide := true) only [bup_eq, bup_ne]
          · obtain ⟨q1, q2, q3, q4, q5, q6⟩ := r2
            refine ⟨?_, ?_, ?_, ?_, ?_, ?_⟩
            all_goals simp (decide := true) only [bup_eq, bup_ne, upd_eq, upd_ne]
            · exact q2
            · exact upd_congr q3
            · exact q4
            · exact q5
            · exact q6
          · refine ⟨?_, by omega, ?_, h18, ?_, ?_, ?_, ?_, ?_, ?_, ?_, ?_⟩
            all_goals simp (decide := true) only [bup_eq, bup_ne, upd_eq, upd_ne, nn_s]
            · exact w8
            · exact w4
            · exact w6
            · intro c hc
              obtain ⟨p, g1, g2⟩ := wp c hc
              exact ⟨p, by omega, g2⟩
            · exact wh
            · exact wi
            · exact wo
            · exact ws
            · exact upd_all (P := fun y => ∃ q, q ≤ 9999 ∧ y = nn q) wu ⟨b, b2, rfl⟩
        · refine dia_more (np := np + 1) (na := na) k5 (fun c h1 h2 => ?_) rfl rfl ?_ ?_ (by omega) h18 ?_
          · rw [bup_ne _ _ (by omega), bup_ne _ _ (by omega), bup_ne _ _ (by omega), bup_ne _ _ (by omega)]
          · simp (decide := true) only [bup_eq, bup_ne, upd_eq, nn_s]
          · simp (decide := true) only [bup_eq, bup_ne, upd_ne]
            exact w8
          · intro np0 na0 b1 b2 b3 b4
            rw [w7] at b1
            rw [w8] at b3
            have := (nn_inj (by omega) (by omega)).mp b1
            have := (nn_inj (by omega) (by omega)).mp b3
            omega
    · have wA2 : F_A_within y 0 9999 = rt 0 := wi_out out2
      have wR2 : F_R_isIn y 0 9999 = rt 0 := ri_out out2
      by_cases e7 : I 2 7 < 6 <;>
      simp (decide := true) only [ok_bn, ok_wr, ok_rd, ok_rt, ok_ite, ok_sr, wA, wR, wA2, wR2, e7, bup_eq, bup_ne, upd_eq, upd_ne, if_true, if_false, true_and]
      · exact rl_told hr
      · exact rl_told hr
  · have wA : F_A_within x 0 9 = rt 0 := wi_out out
    have wR : F_R_isIn x 0 9 = rt 0 := ri_out out
    by_cases e7 : I 2 7 < 6 <;>
    simp (decide := true) only [ok_bn, ok_wr, ok_rd, ok_rt, ok_ite, ok_sr, wA, wR, e7, bup_eq, bup_ne, upd_eq, upd_ne, if_true, if_false, true_and]
    · exact rl_told hr
    · exact rl_told hr
end SC3
