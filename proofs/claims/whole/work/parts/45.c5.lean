/-! feed, letter, loan -/
section SC5
theorem by24 (x : Int32) : ush x 24 &&& 255 = (x >>> ((24 : Int32) &&& 31)) &&& 255 := byte_eq (s := 24) (t := (24 : Int32) &&& 31) (k := 24) (by decide) (by decide) (by decide)
theorem by16 (x : Int32) : ush x 16 &&& 255 = (x >>> ((16 : Int32) &&& 31)) &&& 255 := byte_eq (s := 16) (t := (16 : Int32) &&& 31) (k := 16) (by decide) (by decide) (by decide)
theorem by8 (x : Int32) : ush x 8 &&& 255 = (x >>> ((8 : Int32) &&& 31)) &&& 255 := byte_eq (s := 8) (t := (8 : Int32) &&& 31) (k := 8) (by decide) (by decide) (by decide)
theorem by0 (x : Int32) : ush x 0 &&& 255 = (x >>> ((0 : Int32) &&& 31)) &&& 255 := byte_eq (s := 0) (t := (0 : Int32) &&& 31) (k := 0) (by decide) (by decide) (by decide)
theorem FU5 {σ β : Type} (body : σ → M (σ ⊕ β)) (x : σ) : lp body FU x = lp body (4995 + 1 + 1 + 1 + 1 + 1) x := rfl
/-- a byte behind the tape -/
def tpA (I : MI) (n : Nat) (b : Int32) : MI := bup (bup I 106 (upd (I 106) n b)) 93 (upd (I 93) 0 (nn (n + 1)))
def tpR (J : MI) (n : Nat) (b : Int32) : MI := bup (bup J 216 (upd (J 216) n b)) 207 (upd (J 207) 14 (nn (n + 1)))
theorem take1 {I : MI} {n : Nat} {x s : Int32} (h : I 93 0 = nn n) (hn : n < 400) (hs : ¬ s < 0) : B_Reader_take_3 x s I = some (.inl (s + -8), tpA I n (ush x s &&& 255)) := by
  unfold B_Reader_take_3 tpA
  rw [ite_ap, if_neg hs, bn_rd, h, ite_ap, if_pos (show nn n < 400 from (nn_lt (j := n) (k := 400) (by omega) (by decide)).mpr hn), bn_rd, h, bn_sr _ _ (inR_nn hn (by omega)), nn_nat (by omega), bn_rd, bup_ne _ _ (by decide), h, bn_wr, nn_s, bup_ne _ _ (by decide)]
  rfl
theorem type1 {J : MI} {n : Nat} {x s : Int32} (h : J 207 14 = nn n) (hn : n < 400) (hs : ¬ s < 0) : B_R_types_3 x s J = some (.inl (s + -8), tpR J n ((x >>> (s &&& 31)) &&& 255)) := by
  unfold B_R_types_3 tpR
  rw [ite_ap, if_neg hs, bn_rd, h, bn_sr _ _ (inR_nn hn (by omega)), nn_nat (by omega), bn_rd, bup_ne _ _ (by decide), h, bn_wr, nn_s, bup_ne _ _ (by decide)]
  rfl
theorem tpA_n {I : MI} {n : Nat} {b : Int32} : tpA I n b 93 0 = nn (n + 1) := by unfold tpA; rw [bup_eq, upd_eq]
theorem tpR_n {J : MI} {n : Nat} {b : Int32} : tpR J n b 207 14 = nn (n + 1) := by unfold tpR; rw [bup_eq, upd_eq]
/-- tapes alike -/
def tEq (I J : MI) (n : Nat) : Prop := n ≤ 400 ∧ I 93 0 = nn n ∧ J 207 14 = nn n ∧ ∀ k, k < 400 → ∃ c, c < 256 ∧ I 106 k = nn c ∧ J 216 k = nn c
theorem tEq1 {I J : MI} {n : Nat} {b c : Int32} (h : tEq I J n) (hn : n < 400) (e : b = c) (hc : ∃ q, q < 256 ∧ c = nn q) : tEq (tpA I n b) (tpR J n c) (n + 1) := by
  obtain ⟨-, -, -, h4⟩ := h
  refine ⟨by omega, tpA_n, tpR_n, fun k hk => ?_⟩
  have e1 : tpA I n b 106 = upd (I 106) n b := by unfold tpA; rw [bup_ne _ _ (by decide), bup_eq]
  have e2 : tpR J n c 216 = upd (J 216) n c := by unfold tpR; rw [bup_ne _ _ (by decide), bup_eq]
  rw [e1, e2, e]
  by_cases q : k = n
  · subst q; rw [upd_eq, upd_eq]; obtain ⟨z, z1, z2⟩ := hc; exact ⟨z, z1, z2, z2⟩
  · rw [upd_ne _ _ q, upd_ne _ _ q]; exact h4 k hk
/-- what feeding leaves alone -/
def fA (I I1 : MI) : Prop := UI [93, 106] I I1 ∧ I1 93 1 = I 93 1 ∧ I1 93 2 = I 93 2 ∧ UT I I1
def fR (J J1 : MI) : Prop := UJ [216] [0, 14] J J1
theorem fA1 {I I1 : MI} {n : Nat} {b : Int32} (h : fA I I1) : fA I (tpA I1 n b) := by
  obtain ⟨h1, h2, h3, h4⟩ := h
  unfold tpA
  refine ⟨ui_bup (ui_bup h1 rfl) rfl, ?_, ?_, ut_bup (ut_bup h4 rfl) rfl⟩
  · rw [bup_eq, upd_ne _ _ (by decide)]; exact h2
  · rw [bup_eq, upd_ne _ _ (by decide)]; exact h3
theorem fR1 {J J1 : MI} {n : Nat} {b : Int32} (h : fR J J1) : fR J (tpR J1 n b) := by
  unfold tpR
  have e : upd (J1 207) 14 (nn (n + 1)) = upd ((bup J1 216 (upd (J1 216) n b)) 207) 14 (nn (n + 1)) := by rw [bup_ne _ _ (by decide)]
  rw [e]
  exact uj_fld (uj_bup h rfl (by decide)) rfl
theorem four {I J I0 J0 : MI} {n : Nat} (x : Int32) (h : tEq I J n) (hn : n + 4 ≤ 400) (ha : fA I0 I) (hb : fR J0 J) : ∃ I1 J1, F_Reader_take x I = some ((), I1) ∧ F_R_types x J = some ((), J1) ∧ tEq I1 J1 (n + 4) ∧ fA I0 I1 ∧ fR J0 J1 := by
  have g1 := tEq1 h (by omega) (by24 x) (and255 _)
  have g2 := tEq1 g1 (by omega) (by16 x) (and255 _)
  have g3 := tEq1 g2 (by omega) (by8 x) (and255 _)
  have g4 := tEq1 g3 (by omega) (by0 x) (and255 _)
  refine ⟨_, _, ?_, ?_, g4, fA1 (fA1 (fA1 (fA1 ha))), fR1 (fR1 (fR1 (fR1 hb)))⟩
  · unfold F_Reader_take K_Reader_take_3
    rw [FU5, lp_s, bn_of (take1 h.2.1 (by omega) (by decide))]
    dsimp only
    rw [show (24 : Int32) + -8 = 16 from rfl, lp_s, bn_of (take1 tpA_n (by omega) (by decide))]
    dsimp only
    rw [show (16 : Int32) + -8 = 8 from rfl, lp_s, bn_of (take1 tpA_n (by omega) (by decide))]
    dsimp only
    rw [show (8 : Int32) + -8 = 0 from rfl, lp_s, bn_of (take1 tpA_n (by omega) (by decide))]
    dsimp only
    rw [lp_s]
    rfl
  · unfold F_R_types K_R_types_3
    rw [FU5, lp_s, bn_of (type1 h.2.2.1 (by omega) (by decide))]
    dsimp only
    rw [show (24 : Int32) + -8 = 16 from rfl, lp_s, bn_of (type1 tpR_n (by omega) (by decide))]
    dsimp only
    rw [show (16 : Int32) + -8 = 8 from rfl, lp_s, bn_of (type1 tpR_n (by omega) (by decide))]
    dsimp only
    rw [show (8 : Int32) + -8 = 0 from rfl, lp_s, bn_of (type1 tpR_n (by omega) (by decide))]
    dsimp only
    rw [lp_s]
    rfl
theorem c_feed (a b c d e : Int32) : Call (F_A_feed a b c d e) (F_R_feed a b c d e) := by
  refine call_of fun I J hr => ?_
  obtain ⟨-, kt, -⟩ := id hr
  obtain ⟨⟨n, hn, h1, h2⟩, h3, h4, h5⟩ := kt
  unfold F_A_feed F_R_feed F_Reader_hasRoom
  have e20 : nn n + 20 = nn (n + 20) := nn_add n 20
  by_cases hf : n ≤ 380
  · have l1 : ¬ (400 : Int32) < nn (n + 20) := by rw [show (400 : Int32) = nn 400 from rfl, nn_lt (by decide) (by omega)]; omega
    have l2 : ¬ (380 : Int32) < nn n := by rw [show (380 : Int32) = nn 380 from rfl, nn_lt (by decide) (by omega)]; omega
    have t0 : tEq I (bup J 207 (upd (J 207) 0 0)) n := ⟨hn, h1, h2, h3⟩
    obtain ⟨I1, J1, x1, y1, z1, p1, q1⟩ := four a t0 (by omega) ⟨ui_refl _ _, rfl, rfl, ut_refl _⟩ (uj_refl [216] [0, 14] _)
    obtain ⟨I2, J2, x2, y2, z2, p2, q2⟩ := four b z1 (by omega) p1 q1
    obtain ⟨I3, J3, x3, y3, z3, p3, q3⟩ := four c z2 (by omega) p2 q2
    obtain ⟨I4, J4, x4, y4, z4, p4, q4⟩ := four d z3 (by omega) p3 q3
    obtain ⟨I5, J5, x5, y5, z5, p5, q5⟩ := four e z4 (by omega) p4 q4
    simp (decide := true) only [ok_bn, ok_wr, ok_rd, ok_rt, ok_ite, ok_gdZ, bup_eq, upd_ne, h1, h2, e20, l1, l2, if_true, if_false, true_and, ok_eq x1, ok_eq x2, ok_eq x3, ok_eq x4, ok_eq x5, ok_eq y1, ok_eq y2, ok_eq y3, ok_eq y4, ok_eq y5]
    obtain ⟨w1, w2, w3, w4⟩ := z5
    refine ⟨w3.trans w2.symm, ?_⟩
    obtain ⟨u1, u2, u3, u4⟩ := p5
    have uj : UJ [216] [0, 14] J J5 := by
      refine ⟨fun c hc => ?_, fun k hk => ?_⟩
      · rw [q5.1 c hc, bup_ne _ _ (by intro e; rw [e] at hc; cases hc)]
      · rw [q5.2 k hk, bup_eq, upd_ne _ _ (by intro e; rw [e] at hk; cases hk)]
    have c0 : I5 0 = I 0 := u1 0 rfl
    refine rl_17 [93, 106] [216] [0, 14] hr u1 uj u4 (congrFun c0 2) (congrFun c0 8) (congrFun c0 9) ⟨⟨_, w1, w2, w3⟩, w4, ?_, ?_⟩ rfl
    · rw [uj.2 34 rfl, u2]; exact h4
    · rw [uj.2 35 rfl, u3]; exact h5
  · have l1 : (400 : Int32) < nn (n + 20) := by rw [show (400 : Int32) = nn 400 from rfl, nn_lt (by decide) (by omega)]; omega
    have l2 : (380 : Int32) < nn n := by rw [show (380 : Int32) = nn 380 from rfl, nn_lt (by decide) (by omega)]; omega
    simp (decide := true) only [ok_bn, ok_wr, ok_rd, ok_rt, ok_ite, ok_gdZ, bup_eq, upd_ne, h1, h2, e20, l1, l2, if_true, if_false, true_and]
    exact rl_told hr
theorem rl_11_12 {I I1 J J1 : MI} (l m f : List Nat) (hr : Rl I J) (hu : UI l I I1) (hv : UJ m f J J1) (ht : UT I I1) (h0 : I1 0 = I 0) (n11 : bNot I1 35 0 J1) (n12 : bNot I1 37 1 J1) (hl : l = [35, 36] ∨ l = [37, 38] ∨ l = [35] ∨ l = [37]) (hm : m = [242, 243]) (hf : f = [0]) : Rl I1 J1 := by
  subst hm hf
  refine rl_of hr hu hv ht (by rw [h0]) ?_ ?_ ?_ ?_ ?_ ?_ ?_ ?_ ?_ ?_ (Or.inr n11) (Or.inr n12) ?_ ?_ ?_ ?_ ?_ (Or.inl ⟨by rw [h0], by rw [h0], ?_⟩) ?_ ?_
  all_goals rcases hl with rfl | rfl | rfl | rfl
  all_goals first | rfl | exact Or.inl rfl
theorem put_N {I J I1 J1 : MI} {t j n c : Nat} (hj : j < 2) (hn : n < 12) (hc : c < 26) (hI : I1 t 3 = nn (n + 1)) (hJ : J1 242 j = nn (n + 1)) (hC : I1 (t + 1) = upd (I (t + 1)) n (nn c)) (hL : J1 243 = upd (J 243) (12 * j + n) (nn c)) (h : ∀ i, i < n → ∃ m, m < 26 ∧ I (t + 1) i = nn m ∧ J 243 (12 * j + i) = nn m) : bNot I1 t j J1 := by
  refine ⟨n + 1, by omega, hI, hJ, fun i hi => ?_⟩
  rw [hC, hL]
  rcases Nat.lt_or_ge i n with q | q
  · rw [upd_ne _ _ (by omega), upd_ne _ _ (by omega)]; exact h i q
  · have e : i = n := by omega
    subst e
    exact ⟨c, hc, by rw [upd_eq], by rw [upd_eq]⟩
theorem oth_N {I J I1 J1 : MI} {t j n c : Nat} {x : Int32} (hj : j < 2) (hn : n < 12) (h0 : I1 t = I t) (h1 : I1 (t + 1) = I (t + 1)) (hJ : J1 242 = upd (J 242) (1 - j) x) (hL : J1 243 = J 243 ∨ J1 243 = upd (J 243) (12 * (1 - j) + n) (nn c)) (h : bNot I t j J) : bNot I1 t j J1 := by
  obtain ⟨k, a1, a2, a3, a4⟩ := h
  refine ⟨k, a1, by rw [h0]; exact a2, by rw [hJ, upd_ne _ _ (by omega)]; exact a3, fun i hi => ?_⟩
  rw [h1]
  rcases hL with e | e
  · rw [e]; exact a4 i hi
  · rw [e, upd_ne _ _ (by omega)]; exact a4 i hi
theorem wip_N {I1 J1 : MI} {t j : Nat} (h1 : I1 t 3 = 0) (h2 : J1 242 j = 0) : bNot I1 t j J1 := ⟨0, by decide, h1, h2, fun i hi => absurd hi (by omega)⟩
theorem c_letter (x y : Int32) : Call (F_A_letter x y) (F_R_letter x y) := by
  refine call_of fun I J hr => ?_
  obtain ⟨⟨-, -, -, -, -, -, -, -, -, -, k11, k12, -, -, -, -⟩, -, -, -, kc⟩ := id hr
  obtain ⟨tw, tr⟩ := con_at kc (t := 35) (w := 1) (r := 12) (by decide)
  obtain ⟨tw2, tr2⟩ := con_at kc (t := 37) (w := 1) (r := 12) (by decide)
  obtain ⟨n, hn, hI, hJ, hc⟩ := id k11
  obtain ⟨n2, hn2, hI2, hJ2, hc2⟩ := id k12
  have i0 : inR (0 : Int32) 2 = true := rfl
  have i1 : inR (1 : Int32) 2 = true := rfl
  have t0 : (0 : Int32).toNatClampNeg = 0 := rfl
  have t1 : (1 : Int32).toNatClampNeg = 1 := rfl
  unfold F_A_letter F_R_letter
  rcases rng (v := x) 0 1 (by decide) (by decide) with ⟨j, -, hj, rfl⟩ | out
  · have q := rng_in (a := 0) (b := 1) (by decide) (Nat.zero_le j) hj
    have wA : F_A_within (nn j) 0 1 = rt 1 := wi_in q.1 q.2
    have wR : F_R_isIn (nn j) 0 1 = rt 1 := ri_in q.1 q.2
    match j, hj with
    | 0, _ =>
      have z : nn 0 = 0 := rfl
      rw [z] at wA wR ⊢
      by_cases h1 : y = -1
      · simp (decide := true) only [ok_bn, ok_wr, ok_rd, ok_rt, ok_ite, ok_sr, ok_ld, wA, wR, if_pos h1, ok_wipe, i0, t0, if_true, if_false, bup_eq, bup_ne, true_and]
        refine rl_11_12 [35] [242, 243] [0] hr (ui_bup (ui_refl _ _) rfl) (uj_bup (uj_fld (uj_refl _ _ _) rfl) rfl (by decide)) (ut_sz (ut_refl _)) rfl (wip_N rfl rfl) (oth_N (n := 0) (c := 0) (x := 0) (by decide) (by decide) rfl rfl rfl (Or.inl rfl) k12) (Or.inr (Or.inr (Or.inl rfl))) rfl rfl
      · rcases rng (v := y) 0 25 (by decide) (by decide) with ⟨c, -, hc25, rfl⟩ | out2
        · have q2 := rng_in (a := 0) (b := 25) (by decide) (Nat.zero_le c) hc25
          have wA2 : F_A_within (nn c) 0 25 = rt 1 := wi_in q2.1 q2.2
          have wR2 : F_R_isIn (nn c) 0 25 = rt 1 := ri_in q2.1 q2.2
          by_cases hf : n = 12
          · subst hf
            have e6 : J 242 0 = 12 := hJ
            simp (decide := true) only [ok_bn, ok_wr, ok_rd, ok_rt, ok_ite, ok_sr, ok_ld, wA, wR, wA2, wR2, if_neg h1, ok_putF hI tr (by decide) (by decide), i0, t0, e6, if_true, if_false, bup_eq, bup_ne, true_and]
            exact rl_told hr
          · have hlt : n < 12 := by omega
            have e6 : ¬ nn n = 12 := nn_ne (by omega) (by decide) hf
            have e7 : 12 * (0 : Int32) + nn n = nn n := by rw [show 12 * (0 : Int32) = 0 from rfl, Int32.zero_add]
            have e8 : inR (nn n) 24 = true := inR_nn (by omega) (by omega)
            have e9 : (nn n).toNatClampNeg = n := nn_nat (by omega)
            simp (decide := true) only [ok_bn, ok_wr, ok_rd, ok_rt, ok_ite, ok_sr, ok_ld, wA, wR, wA2, wR2, if_neg h1, ok_put tw hI tr hlt rfl (by decide) (by decide) (by decide), i0, t0, hJ, e6, e7, e8, e9, if_true, if_false, bup_eq, bup_ne, upd_eq, upd_ne, true_and]
            refine ⟨nn_add n 1, rl_11_12 [35, 36] [242, 243] [0] hr (ui_bup (ui_bup (ui_refl _ _) rfl) rfl) ?_ (ut_sz (ut_bup (ut_refl _) rfl)) rfl (put_N (c := c) (by decide) hlt (by omega) ?_ ?_ ?_ ?_ hc) (oth_N (n := n) (c := c) (x := nn n + 1) (by decide) hlt rfl rfl ?_ (Or.inr ?_) k12) (Or.inl rfl) rfl rfl⟩
            · exact uj_bup (uj_bup (uj_fld (uj_refl _ _ _) rfl) rfl (by decide)) rfl (by decide)
            · rw [bup_eq, upd_eq]
            · rw [bup_eq, upd_eq]; exact nn_add n 1
            · rw [bup_ne _ _ (by decide), bup_eq, lnF1]
            · simp (decide := true) only [bup_eq, bup_ne, Nat.mul_zero, Nat.zero_add]
            · simp (decide := true) only [bup_eq, bup_ne]
            · simp (decide := true) only [bup_eq, bup_ne, Nat.sub_self, Nat.mul_zero, Nat.zero_add]
        · have wA2 : F_A_within y 0 25 = rt 0 := wi_out out2
          have wR2 : F_R_isIn y 0 25 = rt 0 := ri_out out2
          simp (decide := true) only [ok_bn, ok_wr, ok_rd, ok_rt, ok_ite, ok_sr, ok_ld, wA, wR, wA2, wR2, if_neg h1, if_true, if_false, true_and]
          exact rl_told hr
    | 1, _ =>
      have z : nn 1 = 1 := rfl
      rw [z] at wA wR ⊢
      by_cases h1 : y = -1
      · simp (decide := true) only [ok_bn, ok_wr, ok_rd, ok_rt, ok_ite, ok_sr, ok_ld, wA, wR, if_pos h1, ok_wipe, i1, t1, if_true, if_false, bup_eq, bup_ne, true_and]
        refine rl_11_12 [37] [242, 243] [0] hr (ui_bup (ui_refl _ _) rfl) (uj_bup (uj_fld (uj_refl _ _ _) rfl) rfl (by decide)) (ut_sz (ut_refl _)) rfl (oth_N (n := 0) (c := 0) (x := 0) (by decide) (by decide) rfl rfl rfl (Or.inl rfl) k11) (wip_N rfl rfl) (Or.inr (Or.inr (Or.inr rfl))) rfl rfl
      · rcases rng (v := y) 0 25 (by decide) (by decide) with ⟨c, -, hc25, rfl⟩ | out2
        · have q2 := rng_in (a := 0) (b := 25) (by decide) (Nat.zero_le c) hc25
          have wA2 : F_A_within (nn c) 0 25 = rt 1 := wi_in q2.1 q2.2
          have wR2 : F_R_isIn (nn c) 0 25 = rt 1 := ri_in q2.1 q2.2
          by_cases hf : n2 = 12
          · subst hf
            have e6 : J 242 1 = 12 := hJ2
            simp (decide := true) only [ok_bn, ok_wr, ok_rd, ok_rt, ok_ite, ok_sr, ok_ld, wA, wR, wA2, wR2, if_neg h1, ok_putF hI2 tr2 (by decide) (by decide), i1, t1, e6, if_true, if_false, bup_eq, bup_ne, true_and]
            exact rl_told hr
          · have hlt : n2 < 12 := by omega
            have e6 : ¬ nn n2 = 12 := nn_ne (by omega) (by decide) hf
            have e7 : 12 * (1 : Int32) + nn n2 = nn (12 + n2) := nn_add 12 n2
            have e8 : inR (nn (12 + n2)) 24 = true := inR_nn (by omega) (by omega)
            have e9 : (nn (12 + n2)).toNatClampNeg = 12 + n2 := nn_nat (by omega)
            simp (decide := true) only [ok_bn, ok_wr, ok_rd, ok_rt, ok_ite, ok_sr, ok_ld, wA, wR, wA2, wR2, if_neg h1, ok_put tw2 hI2 tr2 hlt rfl (by decide) (by decide) (by decide), i1, t1, hJ2, e6, e7, e8, e9, if_true, if_false, bup_eq, bup_ne, upd_eq, upd_ne, true_and]
            refine ⟨nn_add n2 1, rl_11_12 [37, 38] [242, 243] [0] hr (ui_bup (ui_bup (ui_refl _ _) rfl) rfl) ?_ (ut_sz (ut_bup (ut_refl _) rfl)) rfl (oth_N (n := n2) (c := c) (x := nn n2 + 1) (by decide) hlt rfl rfl ?_ (Or.inr ?_) k11) (put_N (c := c) (by decide) hlt (by omega) ?_ ?_ ?_ ?_ hc2) (Or.inr (Or.inl rfl)) rfl rfl⟩
            · exact uj_bup (uj_bup (uj_fld (uj_refl _ _ _) rfl) rfl (by decide)) rfl (by decide)
            · simp (decide := true) only [bup_eq, bup_ne, Nat.sub_zero]
            · simp (decide := true) only [bup_eq, bup_ne, Nat.sub_zero, Nat.mul_one]
            · rw [bup_eq, upd_eq]
            · rw [bup_eq, upd_eq]; exact nn_add n2 1
            · rw [bup_ne _ _ (by decide), bup_eq, lnF1]
            · simp (decide := true) only [bup_eq, bup_ne, Nat.mul_one]
        · have wA2 : F_A_within y 0 25 = rt 0 := wi_out out2
          have wR2 : F_R_isIn y 0 25 = rt 0 := ri_out out2
          simp (decide := true) only [ok_bn, ok_wr, ok_rd, ok_rt, ok_ite, ok_sr, ok_ld, wA, wR, wA2, wR2, if_neg h1, if_true, if_false, true_and]
          exact rl_told hr
    | j + 2, h => omega
  · have wA : F_A_within x 0 1 = rt 0 := wi_out out
    have wR : F_R_isIn x 0 1 = rt 0 := ri_out out
    simp (decide := true) only [ok_bn, ok_wr, ok_rd, ok_rt, ok_ite, ok_sr, ok_ld, wA, wR, if_true, if_false, true_and]
    exact rl_told hr
end SC5
