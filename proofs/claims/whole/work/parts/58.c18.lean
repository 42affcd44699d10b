/-! named, put together -/
section SC18
theorem bup_self {α : Type} (I : Nat → α) (a : Nat) : bup I a (I a) = I := by
  funext c
  by_cases hc : c = a
  · subst hc; rw [bup_eq]
  · rw [bup_ne _ _ hc]
theorem cntF_s {c : Nat → Bool} {k : Nat} : cntF c (k + 1) = if c k = true then cntF c k + 1 else cntF c k := rfl
theorem nm_cls {I J : MI} {x1 : Int32} (h : bBox I 43 J) (hw : I 43 0 = nn 1) : ∃ n C, n ≤ 10 ∧ J 207 67 = nn n ∧ lp (B_Riddles_rows_10 x1) FU 0 (bup I 202 fun k => if k < 26 then 0 else I 202 k) = some ((), bup I 202 C) ∧ ∀ b, b < 26 → C b = cntF (fun i => decide (J 248 i = nn b)) n := by
  obtain ⟨n, hn, hI, hJ, hc⟩ := h
  have hs : siz shT (43 + 1) = 10 := by decide +kernel
  have hl := ok_lp (body := B_Riddles_rows_10 x1) (Q := fun (_ : Unit) K => ∃ C, K = bup I 202 C ∧ ∀ b, b < 26 → C b = cntF (fun i => decide (J 248 i = nn b)) n) (fun k x K => x = nn k ∧ ∃ C, K = bup I 202 C ∧ ∀ b, b < 26 → C b = cntF (fun i => decide (J 248 i = nn b)) k) n
    (fun k x K hk hi => by
      obtain ⟨rfl, C, rfl, hC⟩ := hi
      obtain ⟨m, hm, a1, a2⟩ := hc k hk
      have g0 : (bup I 202 C) 43 = I 43 := bup_ne _ _ (by decide)
      have g1 : (bup I 202 C) 44 = I 44 := bup_ne _ _ (by decide)
      have q3 := rng_in (a := 0) (b := 25) (by decide) (Nat.zero_le m) (by omega)
      have wA : F_A_within (nn m) 0 25 = rt 1 := wi_in q3.1 q3.2
      have e1 : inR (nn m) 26 = true := inR_nn hm (by omega)
      have e2 : (nn m).toNatClampNeg = m := nn_nat (by omega)
      have e3 : nn k < nn n := (nn_lt (by omega) (by omega)).mpr hk
      have t := at_ok (I := bup I 202 C) (t := 43) (w := 1) (n := n) (i := k) (k := 0) (by rw [g0]; exact hw) (by rw [g0]; exact hI) hk (by decide) (by rw [hs]; omega) (by omega) (by decide) (by omega)
      rw [show (43 : Nat) + 1 = 44 from rfl, g1, Nat.mul_one, Nat.add_zero, a1] at t
      have t2 : F_Table_at 43 (nn k) 0 (bup I 202 C) = some (nn m, bup I 202 C) := t
      unfold B_Riddles_rows_10
      simp (decide := true) only [ok_bn, ok_rd, ok_ite, g0, hI, if_pos e3, ok_eq t2, wA, ok_rt, if_false, ok_ld, ok_sr, e1, e2, true_and, bup_eq, bup_bup]
      refine ⟨nn_s k, _, rfl, fun b hb => ?_⟩
      rw [cntF_s, a2]
      by_cases hbm : b = m
      · subst hbm
        rw [upd_eq, decide_eq_true rfl, if_pos rfl, hC b hb]
      · rw [upd_ne _ _ hbm, decide_eq_false (nn_ne (by omega) (by omega) (Ne.symm hbm)), hC b hb]
        rfl)
    (fun x K hi => by
      obtain ⟨rfl, C, rfl, hC⟩ := hi
      have g0 : (bup I 202 C) 43 = I 43 := bup_ne _ _ (by decide)
      have e3 : ¬ nn n < nn n := fun q => by have := (nn_lt (by omega) (by omega)).mp q; omega
      unfold B_Riddles_rows_10
      simp (decide := true) only [ok_bn, ok_rd, ok_ite, g0, hI, if_neg e3, ok_rt]
      exact ⟨C, rfl, hC⟩) FU 0 (bup I 202 fun k => if k < 26 then 0 else I 202 k) (by rw [FU_eq]; omega) ⟨rfl, _, rfl, fun b hb => by rw [if_pos hb]; rfl⟩
  obtain ⟨x, K, h1, C, rfl, hC⟩ := hl
  exact ⟨n, C, hn, hJ, h1, hC⟩
theorem nm_ref {J : MI} {x1 : Int32} : ∃ h, lp (B_R_named_19 x1) FU 0 J = some ((), bup J 249 h) ∧ ∀ i, i < 6 → h i = if i = 0 then 1 else 0 := by
  have hl := ok_lp (body := B_R_named_19 x1) (Q := fun (_ : Unit) K => ∃ h, K = bup J 249 h ∧ ∀ i, i < 6 → h i = if i = 0 then 1 else 0) (fun k x K => x = nn k ∧ ∃ h, K = bup J 249 h ∧ ∀ i, i < k → h i = if i = 0 then 1 else 0) 6
    (fun k x K hk hi => by
      obtain ⟨rfl, h, rfl, hh⟩ := hi
      have e1 : inR (nn k) 6 = true := inR_nn hk (by omega)
      have e2 : (nn k).toNatClampNeg = k := nn_nat (by omega)
      have e3 : nn k < 6 := (nn_lt (k := 6) (by omega) (by omega)).mpr hk
      unfold B_R_named_19
      by_cases c : k = 0
      · subst c
        have e4 : nn 0 = 0 := rfl
        simp (decide := true) only [ok_bn, ok_ite, if_pos e3, if_pos e4, ok_rt, ok_sr, e1, e2, true_and, bup_eq, bup_bup]
        exact ⟨_, rfl, fun i hi => by rw [show i = 0 by omega, upd_eq, if_pos rfl]⟩
      · have e4 : ¬ nn k = 0 := nn_ne (k := 0) (by omega) (by decide) c
        simp (decide := true) only [ok_bn, ok_ite, if_pos e3, if_neg e4, ok_rt, ok_sr, e1, e2, true_and, bup_eq, bup_bup]
        refine ⟨nn_s k, _, rfl, fun i hi => ?_⟩
        by_cases hik : i = k
        · subst hik; rw [upd_eq, if_neg c]
        · rw [upd_ne _ _ hik]; exact hh i (by omega))
    (fun x K hi => by
      obtain ⟨rfl, h, rfl, hh⟩ := hi
      have e3 : ¬ nn 6 < 6 := by decide
      unfold B_R_named_19
      simp (decide := true) only [ok_ite, if_neg e3, ok_rt]
      exact ⟨h, rfl, hh⟩) FU 0 J (by rw [FU_eq]; omega) ⟨rfl, J 249, (bup_self J 249).symm, fun i hi => absurd hi (by omega)⟩
  obtain ⟨x, K, h1, h, rfl, hh⟩ := hl
  exact ⟨h, h1, hh⟩
theorem c_named (x : Int32) : Call (F_A_named x) (F_R_named x) := by
  refine call_of fun I J hr => ?_
  obtain ⟨⟨-, -, -, -, -, -, -, -, -, -, -, -, -, -, k15, -⟩, -, -, -, kc⟩ := id hr
  obtain ⟨tw, tr⟩ := con_at kc (t := 43) (w := 1) (r := 10) (by decide)
  unfold F_A_named F_R_named K_R_named_19 K_R_named_46 F_Riddles_rows K_Riddles_rows_10 K_Riddles_rows_63
  rcases rng (v := x) 0 5 (by decide) (by decide) with ⟨q, a1, a2, rfl⟩ | out
  · have q3 := rng_in (a := 0) (b := 5) (by decide) a1 a2
    have wA : F_A_within (nn q) 0 5 = rt 1 := wi_in q3.1 q3.2
    have wR : F_R_isIn (nn q) 0 5 = rt 1 := ri_in q3.1 q3.2
    obtain ⟨n, C, hn, h3, hl, hC⟩ := nm_cls (x1 := nn q) k15 tw
    obtain ⟨h, hl2, hh⟩ := nm_ref (J := bup J 207 (upd (J 207) 0 0)) (x1 := nn q)
    have f1 := fill_A (I := I) (t := 202) (n := 26) (v := 0) (by decide +kernel) (by decide)
    have f2 := fill_A (I := bup I 202 C) (t := 203) (n := 6) (v := 0) (by decide +kernel) (by decide)
    have ho := nm_out (I0 := bup I 202 C) (J0 := bup J 207 (upd (J 207) 0 0)) (q := q) (n := n) (by omega) hn (by rw [bup_eq, upd_ne _ _ (by decide)]; exact h3) (fun b hb => by
      rw [bup_eq, hC b hb]
      rw [bup_ne _ _ (by decide)]) (I := bup (bup I 202 C) 203 (upd (fun k => if k < 6 then 0 else (bup I 202 C) 203 k) 0 1)) (J := bup (bup J 207 (upd (J 207) 0 0)) 249 h) ⟨_, _, rfl, rfl, fun i hi => by
        rw [hh i hi]
        by_cases h0 : i = 0
        · subst h0; rw [upd_eq, if_pos rfl]
        · rw [upd_ne _ _ h0, if_neg h0, if_pos hi]⟩
    simp (decide := true) only [ok_bn, ok_wr, ok_ite, ok_rt, wA, wR, if_false, ok_eq f1, ok_eq hl, ok_eq f2, ok_eq hl2, ok_sr, true_and, bup_eq, bup_bup]
    refine ok_mono ho fun v I1 h1 => ?_
    refine ok_mono h1 fun u J1 h2 => ?_
    obtain ⟨hu, g, h, rfl, rfl, -⟩ := h2
    exact ⟨hu, rl_none [203, 202] [249] [0] hr (ui_bup (ui_bup (ui_refl _ _) rfl) rfl) (uj_bup (uj_fld (uj_refl _ _ _) rfl) rfl (by decide)) (ut_bup (ut_bup (ut_refl _) rfl) rfl) rfl rfl rfl rfl⟩
  · have wA : F_A_within x 0 5 = rt 0 := wi_out out
    have wR : F_R_isIn x 0 5 = rt 0 := ri_out out
    simp (decide := true) only [ok_bn, ok_wr, ok_rt, ok_ite, wA, wR, if_true, if_false, true_and]
    exact rl_told hr
end SC18
