/-! alias, set -/
section SC4
theorem add32 {I : MI} {x y z : Int32} : K_World_addAlias_32 2 x y z I = some (-1, I) := by
  unfold K_World_addAlias_32
  rw [bn_rd, ite_ap]
  split
  · rw [if_pos rfl]; rfl
  · rfl
theorem c_alias (x y z : Int32) : Call (F_A_alias x y z) (F_R_alias x y z) := by
  refine call_of fun I J hr => ?_
  obtain ⟨⟨k1, -, -, -, k5, -⟩, -, kp, -⟩ := id hr
  obtain ⟨r1, r2, np, na, r3⟩ := k1
  obtain ⟨w7, h6, w8, h18, w4, w6, wp, wh, wi, wo, ws, wu⟩ := id r3
  have j6 : J 207 6 = nn np := r2.1.trans w7
  have j7 : J 207 7 = nn na := r2.2.1.trans w8
  have no : ∀ {v : Int32}, v = -1 → (v = -1) = True := fun h => by simp [h]
  unfold F_A_alias F_World_addAlias F_R_alias F_A_forget
  rw [isP_A, isP_R]
  rcases nlt (x := x) np (by omega) with ⟨p, hp, rfl⟩ | out
  · have pA : isX 2 7 (nn p) I = some (1, I) := isX_in w7 hp (by omega)
    have pR : isX 207 6 (nn p) (bup J 207 (upd (J 207) 0 0)) = some (1, bup J 207 (upd (J 207) 0 0)) := isX_in (n := np) (by exact j6) hp (by omega)
    rcases rng (v := y) 0 9 (by decide) (by decide) with ⟨a, -, a2, rfl⟩ | out1
    · have q := rng_in (a := 0) (b := 9) (by decide) (Nat.zero_le a) a2
      have wA : F_A_within (nn a) 0 9 = rt 1 := wi_in q.1 q.2
      have wR : F_R_isIn (nn a) 0 9 = rt 1 := ri_in q.1 q.2
      rcases rng (v := z) 0 9 (by decide) (by decide) with ⟨b, -, b2, rfl⟩ | out2
      · have q2 := rng_in (a := 0) (b := 9) (by decide) (Nat.zero_le b) b2
        have wA2 : F_A_within (nn b) 0 9 = rt 1 := wi_in q2.1 q2.2
        have wR2 : F_R_isStreet (nn b) = rt 1 := st_in q2.1 q2.2
        by_cases hf : na = 18
        · subst hf
          have e6 : J 207 7 = 18 := j7
          have e7 : ¬ I 2 8 < 18 := by rw [w8]; decide
          simp (decide := true) only [ok_bn, ok_wr, ok_rd, ok_rt, ok_ite, ok_sr, ok_eq pA, ok_eq pR, wA, wR, wA2, wR2, e6, e7, bup_eq, bup_ne, upd_eq, upd_ne, if_true, if_false, true_and]
          exact rl_told hr
        · have hlt : na < 18 := by omega
          have e6 : ¬ nn na = 18 := nn_ne (by omega) (by decide) hf
          have e7 : nn na < 18 := (nn_lt (j := na) (k := 18) (by omega) (by decide)).mpr hlt
          have i6 : inR (nn na) 18 = true := inR_nn hlt (by omega)
          have t6 : (nn na).toNatClampNeg = na := nn_nat (by omega)
          have e23 : 23 + nn na = nn (23 + na) := nn_add 23 na
          have e41 : 41 + nn na = nn (41 + na) := nn_add 41 na
          have e59 : 59 + nn na = nn (59 + na) := nn_add 59 na
          have e77 : 77 + nn na = nn (77 + na) := nn_add 77 na
          have i23 : inR (nn (23 + na)) 95 = true := inR_nn (by omega) (by omega)
          have i41 : inR (nn (41 + na)) 95 = true := inR_nn (by omega) (by omega)
          have i59 : inR (nn (59 + na)) 95 = true := inR_nn (by omega) (by omega)
          have i77 : inR (nn (77 + na)) 95 = true := inR_nn (by omega) (by omega)
          have t23 : (nn (23 + na)).toNatClampNeg = 23 + na := nn_nat (by omega)
          have t41 : (nn (41 + na)).toNatClampNeg = 41 + na := nn_nat (by omega)
          have t59 : (nn (59 + na)).toNatClampNeg = 59 + na := nn_nat (by omega)
          have t77 : (nn (77 + na)).toNatClampNeg = 77 + na := nn_nat (by omega)
          have m1 : ¬ nn na = -1 := by
            intro h
            have := congrArg Int32.toInt h
            rw [nn_toInt (by omega)] at this
            have e : (-1 : Int32).toInt = -1 := rfl
            omega
          have m2 : nn na + 1 - 1 = nn na := by
            rw [nn_s, show (1 : Int32) = nn 1 from rfl, nn_sub (by omega)]
            rfl
          simp (decide := true) only [ok_bn, ok_wr, ok_rd, ok_rt, ok_ite, ok_sr, ok_eq pA, ok_eq pR, wA, wR, wA2, wR2, w8, j7, e6, e7, i6, t6, e23, i23, t23, e41, i41, t41, e59, i59, t59, e77, i77, t77, m1, m2, bup_eq, bup_ne, upd_eq, upd_ne, if_true, if_false, true_and]
          refine rl_f [0, 2, 6, 7, 8, 9, 10, 11, 12] [208, 212, 213, 214] [0, 3, 7] hr ?_ ?_ ?_ rfl rfl rfl rfl ?_ ?_ rfl
          · exact ui_bup (ui_bup (ui_bup (ui_bup (ui_bup (ui_bup (ui_bup (ui_bup (ui_bup (ui_refl _ _) rfl) rfl) rfl) rfl) rfl) rfl) rfl) rfl) rfl
          · exact uj_fld (uj_fld (uj_bup (uj_bup (uj_bup (uj_bup (uj_bup (uj_bup (uj_bup (uj_fld (uj_refl _ _ _) rfl) rfl (by decide)) rfl (by decide)) rfl (by decide)) rfl (by decide)) rfl (by decide)) rfl (by decide)) rfl (by decide)) rfl) rfl
          · exact ut_bup (ut_bup (ut_bup (ut_bup (ut_bup (ut_bup (ut_bup (ut_bup (ut_bup (ut_refl _) rfl) rfl) rfl) rfl) rfl) rfl) rfl) rfl) rfl
          · refine ⟨?_, ?_, np, na + 1, ?_⟩
            · have z1 := rW_a7 (k := na) (x := nn b) hlt r1
              have z2 := rW_a8 (k := na) (x := 0) hlt z1
              have z3 := rW_a9 (k := na) (x := 0) hlt z2
              have z4 := rW_a10 (k := na) (x := 0) hlt z3
              refine k_rW2 (w := 2) (fun f hf => ?_) ?_ ?_ ?_ ?_ ?_ ?_ z4
              · simp (decide := true) only [bup_eq, bup_ne]
                exact upd_ne _ _ (by omega)
              all_goals simp (decide := true) only [bup_eq, bup_ne]
            · obtain ⟨q1, q2, q3, q4, q5, q6⟩ := r2
              refine ⟨?_, ?_, ?_, ?_, ?_, ?_⟩
              all_goals simp (decide := true) only [bup_eq, bup_ne, upd_eq, upd_ne]
              · exact q1
              · exact q3
              · exact upd_congr q4
              · exact upd_congr q5
              · exact upd_congr q6
            · have up : ∀ {f : Nat → Int32} {x : Int32} {P : Int32 → Prop}, (∀ c, c < na → P (f c)) → P x → ∀ c, c < na + 1 → P (upd f na x c) := by
                intro f x P h hx c hc
                by_cases e : c = na
                · subst e; rw [upd_eq]; exact hx
                · rw [upd_ne _ _ e]; exact h c (by omega)
              refine ⟨?_, h6, ?_, by omega, ?_, ?_, ?_, ?_, ?_, ?_, ?_, ?_⟩
              all_goals simp (decide := true) only [bup_eq, bup_ne, upd_eq, upd_ne, nn_s]
              · exact w7
              · exact w4
              · exact w6
              · exact up (P := fun y => ∃ p, p < np ∧ y = nn p) wp ⟨p, hp, rfl⟩
              · exact up (P := fun y => ∃ s, s < 10 ∧ y = nn s) wh ⟨b, by omega, rfl⟩
              · exact up (P := fun y => ∃ s, s < 10 ∧ y = nn s) wi ⟨b, by omega, rfl⟩
              · exact upd_all (P := fun y => y = 0 ∨ y = 1) wo (Or.inl rfl)
              · exact upd_all (P := fun y => y = 0 ∨ y = 1) ws (Or.inl rfl)
              · exact wu
          · refine dia_more (np := np) (na := na + 1) k5 (fun c h1 h2 => ?_) rfl rfl ?_ ?_ h6 (by omega) ?_
            · rw [bup_ne _ _ (by omega), bup_ne _ _ (by omega), bup_ne _ _ (by omega), bup_ne _ _ (by omega), bup_ne _ _ (by omega), bup_ne _ _ (by omega), bup_ne _ _ (by omega), bup_ne _ _ (by omega), bup_ne _ _ (by omega)]
            · simp (decide := true) only [bup_eq, bup_ne, upd_ne]
              exact w7
            · simp (decide := true) only [bup_eq, bup_ne, upd_eq, nn_s]
            · intro np0 na0 b1 b2 b3 b4
              rw [w7] at b1
              rw [w8] at b3
              have := (nn_inj (by omega) (by omega)).mp b1
              have := (nn_inj (by omega) (by omega)).mp b3
              omega
      · have wA2 : F_A_within z 0 9 = rt 0 := wi_out out2
        have wR2 : F_R_isStreet z = rt 0 := st_out out2
        simp (decide := true) only [ok_bn, ok_wr, ok_rd, ok_rt, ok_ite, ok_sr, ok_eq pA, ok_eq pR, ok_eq add32, wA, wR, wA2, wR2, bup_eq, bup_ne, upd_eq, upd_ne, if_true, if_false, true_and]
        exact rl_told hr
    · have wA : F_A_within y 0 9 = rt 0 := wi_out out1
      have wR : F_R_isIn y 0 9 = rt 0 := ri_out out1
      simp (decide := true) only [ok_bn, ok_wr, ok_rd, ok_rt, ok_ite, ok_sr, ok_eq pA, ok_eq pR, ok_eq add32, wA, wR, bup_eq, bup_ne, upd_eq, upd_ne, if_true, if_false, true_and]
      exact rl_told hr
  · have pA : isX 2 7 x I = some (0, I) := isX_out w7 out
    have pR : isX 207 6 x (bup J 207 (upd (J 207) 0 0)) = some (0, bup J 207 (upd (J 207) 0 0)) := isX_out (n := np) (by exact j6) out
    simp (decide := true) only [ok_bn, ok_wr, ok_rd, ok_rt, ok_ite, ok_sr, ok_eq pA, ok_eq pR, ok_eq add32, bup_eq, bup_ne, upd_eq, upd_ne, if_true, if_false, true_and]
    exact rl_told hr
end SC4
