/-! who, street; the map -/
section SC8
theorem aliases_A {I : MI} {w na : Nat} {x b : Int32} (h8 : I w 8 = nn na) (hna : na ≤ 18) : F_World_aliasesOf w x b I = some (setF (fun k => decide (I (w + 4) k = x) && (decide (b = 0) || !decide (I (w + 8) k = 0))) na, I) := by
  unfold F_World_aliasesOf K_World_aliasesOf_5
  refine set_lp _ (by omega) (fun k y hk => ?_) (fun y => ?_)
  · unfold B_World_aliasesOf_5
    rw [bn_rd, h8, ite_ap, if_pos ((nn_lt (by omega) (by omega)).mpr hk), bn_ld _ _ (inR_nn (by omega) (by omega)), nn_nat (by omega), ite_ap]
    by_cases h1 : I (w + 4) k = x
    · rw [if_pos h1, decide_eq_true h1, ite_ap]
      by_cases hb : b = 0
      · rw [if_pos hb, decide_eq_true hb, nn_s]; rfl
      · rw [if_neg hb, decide_eq_false hb, bn_ld _ _ (inR_nn (by omega) (by omega)), nn_nat (by omega), ite_ap]
        by_cases h2 : I (w + 8) k = 0
        · rw [if_pos h2, decide_eq_true h2, nn_s]; rfl
        · rw [if_neg h2, decide_eq_false h2, nn_s]; rfl
    · rw [if_neg h1, decide_eq_false h1, nn_s]; rfl
  · unfold B_World_aliasesOf_5
    rw [bn_rd, h8, ite_ap, if_neg (by rw [nn_lt (by omega) (by omega)]; omega)]
    rfl
theorem aliases_R {J : MI} {na : Nat} {x b : Int32} (h8 : J 207 7 = nn na) (hna : na ≤ 18) : F_R_aliasesOf x b J = some (setF (fun k => decide (J 212 k = x) && (decide (b = 0) || decide (J 208 (41 + k) = 1))) na, J) := by
  unfold F_R_aliasesOf K_R_aliasesOf_5
  refine set_lp _ (by omega) (fun k y hk => ?_) (fun y => ?_)
  · unfold B_R_aliasesOf_5
    rw [bn_rd, h8, ite_ap, if_pos ((nn_lt (by omega) (by omega)).mpr hk), bn_ld _ _ (inR_nn (by omega) (by omega)), nn_nat (by omega), ite_ap]
    by_cases h1 : J 212 k = x
    · rw [if_pos h1, decide_eq_true h1, ite_ap]
      by_cases hb : b = 0
      · rw [if_pos hb, decide_eq_true hb, nn_s]; rfl
      · rw [if_neg hb, decide_eq_false hb, bn_of (isOut_R (by omega)), ite_ap]
        by_cases h2 : J 208 (41 + k) = 1
        · rw [if_pos h2, if_neg one_ne, decide_eq_true h2, nn_s]; rfl
        · rw [if_neg h2, if_pos rfl, decide_eq_false h2, nn_s]; rfl
    · rw [if_neg h1, decide_eq_false h1, nn_s]; rfl
  · unfold B_R_aliasesOf_5
    rw [bn_rd, h8, ite_ap, if_neg (by rw [nn_lt (by omega) (by omega)]; omega)]
    rfl
theorem outIn_A {I : MI} {w na : Nat} {s : Int32} (h8 : I w 8 = nn na) (hna : na ≤ 18) : F_World_outIn w s I = some (setF (fun k => !decide (I (w + 8) k = 0) && decide (I (w + 7) k = s)) na, I) := by
  unfold F_World_outIn K_World_outIn_4
  refine set_lp _ (by omega) (fun k y hk => ?_) (fun y => ?_)
  · unfold B_World_outIn_4
    rw [bn_rd, h8, ite_ap, if_pos ((nn_lt (by omega) (by omega)).mpr hk), bn_ld _ _ (inR_nn (by omega) (by omega)), nn_nat (by omega), ite_ap]
    by_cases h2 : I (w + 8) k = 0
    · rw [if_pos h2, decide_eq_true h2, nn_s]; rfl
    · rw [if_neg h2, decide_eq_false h2, bn_ld _ _ (inR_nn (by omega) (by omega)), nn_nat (by omega), ite_ap]
      by_cases h1 : I (w + 7) k = s
      · rw [if_pos h1, decide_eq_true h1, nn_s]; rfl
      · rw [if_neg h1, decide_eq_false h1, nn_s]; rfl
  · unfold B_World_outIn_4
    rw [bn_rd, h8, ite_ap, if_neg (by rw [nn_lt (by omega) (by omega)]; omega)]
    rfl
theorem outIn_R {J : MI} {na : Nat} {s : Int32} (h8 : J 207 7 = nn na) (hna : na ≤ 18) : K_R_street_56 s 0 0 J = some (setF (fun k => decide (J 208 (41 + k) = 1) && decide (J 208 (23 + k) = s)) na, J) := by
  unfold K_R_street_56
  refine set_lp _ (by omega) (fun k y hk => ?_) (fun y => ?_)
  · unfold B_R_street_56
    rw [bn_rd, h8, ite_ap, if_pos ((nn_lt (by omega) (by omega)).mpr hk), bn_of (isOut_R (by omega)), ite_ap]
    by_cases h2 : J 208 (41 + k) = 1
    · rw [if_pos h2, if_neg one_ne, decide_eq_true h2, show (23 : Int32) + nn k = nn (23 + k) from nn_add 23 k, bn_ld _ _ (inR_nn (by omega) (by omega)), nn_nat (by omega), ite_ap]
      by_cases h1 : J 208 (23 + k) = s
      · rw [if_pos h1, decide_eq_true h1, nn_s]; rfl
      · rw [if_neg h1, decide_eq_false h1, nn_s]; rfl
    · rw [if_neg h2, if_pos rfl, decide_eq_false h2, nn_s]; rfl
  · unfold B_R_street_56
    rw [bn_rd, h8, ite_ap, if_neg (by rw [nn_lt (by omega) (by omega)]; omega)]
    rfl
theorem c_who (x y : Int32) : Call (F_A_who x y) (F_R_who x y) := by
  refine call_of fun I J hr => ?_
  obtain ⟨⟨k1, -⟩, -⟩ := id hr
  obtain ⟨r1, r2, np, na, r3⟩ := k1
  obtain ⟨w7, h6, w8, h18, w4, w6, wp, wh, wi, wo, ws, wu⟩ := id r3
  obtain ⟨b1, b2, b3, b4, b5, b6⟩ := id r2
  obtain ⟨-, -, -, -, -, -, -, -, u17, -, u41, -⟩ := id r1
  have j6 : J 207 6 = nn np := b1.trans w7
  have j7 : J 207 7 = nn na := b2.trans w8
  have se : ∀ {b : Int32}, setF (fun k => decide (J 212 k = x) && (decide (b = 0) || decide (J 208 (41 + k) = 1))) na = setF (fun k => decide (I (2 + 4) k = x) && (decide (b = 0) || !decide (I (2 + 8) k = 0))) na := fun {b} => setF_congr fun k hk => by
    rw [b4 k (by omega), u41 k (by omega), bit_eq (wo k (by omega))]
  unfold F_A_who F_R_who
  rw [isP_A, isP_R]
  rcases nlt (x := x) np (by omega) with ⟨k, hk, rfl⟩ | out
  · have pA : isX 2 7 (nn k) I = some (1, I) := isX_in w7 hk (by omega)
    have pR : isX 207 6 (nn k) (bup J 207 (upd (J 207) 0 0)) = some (1, bup J 207 (upd (J 207) 0 0)) := isX_in (n := np) (by exact j6) hk (by omega)
    have sA : ∀ b, F_World_aliasesOf 2 (nn k) b I = _ := fun b => aliases_A w8 h18
    have sR : ∀ b, F_R_aliasesOf (nn k) b (bup J 207 (upd (J 207) 0 0)) = _ := fun b => aliases_R (na := na) (by exact j7) h18
    have two : ∀ b, ∃ S, F_World_aliasesOf 2 (nn k) b I = some (S, I) ∧ F_R_aliasesOf (nn k) b (bup J 207 (upd (J 207) 0 0)) = some (S, bup J 207 (upd (J 207) 0 0)) := fun b => ⟨_, sA b, (sR b).trans (congrArg (fun S => some (S, bup J 207 (upd (J 207) 0 0))) (se (b := b)))⟩
    obtain ⟨S0, A0, R0⟩ := two 0
    obtain ⟨S1, A1, R1⟩ := two 1
    have i6 : inR (nn k) 6 = true := inR_nn (by omega) (by omega)
    have t6 : (nn k).toNatClampNeg = k := nn_nat (by omega)
    have e17 : 17 + nn k = nn (17 + k) := nn_add 17 k
    have i17 : inR (nn (17 + k)) 95 = true := inR_nn (by omega) (by omega)
    have t17 : (nn (17 + k)).toNatClampNeg = 17 + k := nn_nat (by omega)
    have e4 : J 211 k = I 4 k := b3 k (by omega)
    have e5 : J 208 (17 + k) = I 5 k := u17 k (by omega)
    rcases rng (v := y) 0 3 (by decide) (by decide) with ⟨c, -, hc, rfl⟩ | out2
    · have q := rng_in (a := 0) (b := 3) (by decide) (Nat.zero_le c) hc
      have wR : F_R_isIn (nn c) 0 3 = rt 1 := ri_in q.1 q.2
      match c, hc with
      | 0, _ =>
        simp (decide := true) only [ok_bn, ok_wr, ok_rd, ok_rt, ok_ite, ok_ld, ok_eq pA, ok_eq pR, wR, i6, t6, e4, bup_eq, bup_ne, if_true, if_false, true_and]
        exact rl_told hr
      | 1, _ =>
        simp (decide := true) only [ok_bn, ok_wr, ok_rd, ok_rt, ok_ite, ok_ld, ok_eq pA, ok_eq pR, wR, i6, t6, e17, i17, t17, e5, bup_eq, bup_ne, if_true, if_false, true_and]
        exact rl_told hr
      | 2, _ =>
        simp (decide := true) only [ok_bn, ok_wr, ok_rd, ok_rt, ok_ite, ok_ld, ok_eq pA, ok_eq pR, wR, ok_eq A0, ok_eq R0, bup_eq, bup_ne, if_true, if_false, true_and]
        exact rl_told hr
      | 3, _ =>
        simp (decide := true) only [ok_bn, ok_wr, ok_rd, ok_rt, ok_ite, ok_ld, ok_eq pA, ok_eq pR, wR, ok_eq A1, ok_eq R1, bup_eq, bup_ne, if_true, if_false, true_and]
        exact rl_told hr
      | c + 4, h => omega
    · have wR : F_R_isIn y 0 3 = rt 0 := ri_out out2
      have ne : ∀ c, c ≤ 3 → ¬ y = nn c := by
        intro c hc e
        subst e
        have q := rng_in (a := 0) (b := 3) (by decide) (Nat.zero_le c) hc
        rcases out2 with h | h
        · exact q.1 h
        · exact q.2 h
      have n0 : ¬ y = 0 := ne 0 (by decide)
      have n1 : ¬ y = 1 := ne 1 (by decide)
      have n2 : ¬ y = 2 := ne 2 (by decide)
      have n3 : ¬ y = 3 := ne 3 (by decide)
      simp (decide := true) only [ok_bn, ok_wr, ok_rd, ok_rt, ok_ite, ok_ld, ok_eq pA, ok_eq pR, wR, if_neg n0, if_neg n1, if_neg n2, if_neg n3, bup_eq, bup_ne, if_true, if_false, true_and]
      exact rl_told hr
  · have pA : isX 2 7 x I = some (0, I) := isX_out w7 out
    have pR : isX 207 6 x (bup J 207 (upd (J 207) 0 0)) = some (0, bup J 207 (upd (J 207) 0 0)) := isX_out (n := np) (by exact j6) out
    simp (decide := true) only [ok_bn, ok_wr, ok_rd, ok_rt, ok_ite, ok_ld, ok_eq pA, ok_eq pR, bup_eq, bup_ne, if_true, if_false, true_and]
    exact rl_told hr
/-! the map -/
theorem msk_eq {m1 m2 : Nat} (h1 : m1 < 1024) (h2 : m2 < 1024) (h : ∀ b, b < 10 → (m1.testBit b = true ↔ m2.testBit b = true)) : m1 = m2 := by
  apply Nat.eq_of_testBit_eq
  intro b
  rcases Nat.lt_or_ge b 10 with hb | hb
  · have := h b hb
    cases e1 : m1.testBit b <;> cases e2 : m2.testBit b <;> simp_all
  · have p : 2 ^ 10 ≤ 2 ^ b := Nat.pow_le_pow_right (by decide) hb
    rw [Nat.testBit_lt_two_pow (by omega), Nat.testBit_lt_two_pow (by omega)]
theorem fill_A {I : MI} {t n : Nat} {v : Int32} (hs : siz shT t = n) (hn : n < 5000) : F_Arrays_fill t v I = some ((), bup I t (fun k => if k < n then v else I t k)) := by
  unfold F_Arrays_fill K_Arrays_fill_5
  rw [hs]
  refine fill_lp hn (fun k K hk => ?_) (fun K => ?_)
  · unfold B_Arrays_fill_5
    rw [ite_ap, if_pos (show nn k < Int32.ofNat n from (nn_lt (by omega) (by omega)).mpr hk), hs, bn_sr _ _ (inR_nn hk (by omega)), nn_nat (by omega), nn_s]
    rfl
  · unfold B_Arrays_fill_5
    rw [ite_ap, if_neg (show ¬ nn n < Int32.ofNat n by rw [show Int32.ofNat n = nn n from rfl, nn_lt (by omega) (by omega)]; omega)]
    rfl
theorem map_ok {I J : MI} (h : bWay I 25 J) (hw : I 25 0 = nn 2) : ∃ B : Nat → Int32, F_Port_drawMap I = some ((), bup I 191 B) ∧ (∀ s, s < 10 → B s = J 228 s) ∧ ∀ s, s < 10 → ∃ m, m < 1024 ∧ B s = nn m := by
  obtain ⟨n, hn, hI, hJ, f, g, hc, hm⟩ := h
  have hs : siz shT (25 + 1) = 32 := by decide +kernel
  have h191 : siz shT 191 = 10 := by decide +kernel
  have lp := ok_lp (body := B_Port_drawMap_21) (Q := fun (_ : Unit) K => ∃ B, K = bup I 191 B ∧ mskP n f g (fun _ => True) B) (fun k x K => x = nn k ∧ ∃ B, K = bup I 191 B ∧ mskP k f g (fun _ => True) B) n
    (fun k x K hk hi => by
      obtain ⟨rfl, B, rfl, hB⟩ := hi
      obtain ⟨c1, c2, c3, c4, c5⟩ := hc k hk
      unfold B_Port_drawMap_21
      have l1 : nn k < nn n := (nn_lt (by omega) (by omega)).mpr hk
      have a0 : F_Table_at 25 (nn k) 0 (bup I 191 B) = some (nn (f k), bup I 191 B) := by
        have := at_ok (I := bup I 191 B) (t := 25) (w := 2) (n := n) (i := k) (k := 0) (by exact hw) (by exact hI) hk (by decide) (by rw [hs]; omega) (by omega) (by decide) (by omega)
        rw [show (0 : Int32) = nn 0 from rfl, this, bup_ne _ _ (by decide), Nat.mul_comm k 2]
        exact congrArg (fun v => some (v, bup I 191 B)) c4
      have a1 : F_Table_at 25 (nn k) 1 (bup I 191 B) = some (nn (g k), bup I 191 B) := by
        have := at_ok (I := bup I 191 B) (t := 25) (w := 2) (n := n) (i := k) (k := 1) (by exact hw) (by exact hI) hk (by decide) (by rw [hs]; omega) (by omega) (by decide) (by omega)
        rw [show (1 : Int32) = nn 1 from rfl, this, bup_ne _ _ (by decide), Nat.mul_comm, c5]
      have qf := rng_in (a := 0) (b := 9) (k := f k) (by decide) (Nat.zero_le _) (by omega)
      have qg := rng_in (a := 0) (b := 9) (k := g k) (by decide) (Nat.zero_le _) (by omega)
      have wf' : F_A_within (nn (f k)) 0 9 = rt 1 := wi_in qf.1 qf.2
      have wg' : F_A_within (nn (g k)) 0 9 = rt 1 := wi_in qg.1 qg.2
      have if' : inR (nn (f k)) 10 = true := inR_nn c1 (by omega)
      have ig' : inR (nn (g k)) 10 = true := inR_nn c2 (by omega)
      have tf : (nn (f k)).toNatClampNeg = f k := nn_nat (by omega)
      have tg : (nn (g k)).toNatClampNeg = g k := nn_nat (by omega)
      have e25 : I 25 3 = nn n := hI
      simp (decide := true) only [ok_bn, ok_rd, ok_ite, ok_rt, ok_ld, ok_sr, bup_ne, bup_eq, e25, if_pos l1, ok_eq a0, ok_eq a1, wf', wg', if', ig', tf, tg, if_false, true_and, nn_s]
      refine ⟨upd (upd B (f k) (B (f k) ||| (1 <<< (nn (g k) &&& 31)))) (g k) (B (g k) ||| (1 <<< (nn (f k) &&& 31))), ?_, ?_⟩
      · rw [upd_ne B (j := g k) _ (Ne.symm c3)]
        funext q
        by_cases hq : q = 191
        · subst hq; rw [bup_eq, bup_eq]
        · rw [bup_ne _ _ hq, bup_ne _ _ hq, bup_ne _ _ hq, bup_ne _ _ hq]
      · have p := msk_put (ok2 := fun _ => True) hB c1 c2 c3 (fun _ _ => Iff.rfl) trivial
        intro s hs
        obtain ⟨m, m1, m2, m3⟩ := p s hs
        refine ⟨m, m1, m2, fun b hb => (m3 b hb).trans ?_⟩
        constructor
        · rintro ⟨i, i1, i2, i3⟩
          refine ⟨i, i1, trivial, ?_⟩
          by_cases e : i = k
          · subst e; simpa using i3
          · simpa [e] using i3
        · rintro ⟨i, i1, i2, i3⟩
          refine ⟨i, i1, trivial, ?_⟩
          by_cases e : i = k
          · subst e; simpa using i3
          · simpa [e] using i3)
    (fun x K hi => by
      obtain ⟨rfl, B, rfl, hB⟩ := hi
      unfold B_Port_drawMap_21
      have l1 : ¬ nn n < nn n := by rw [nn_lt (by omega) (by omega)]; omega
      have e25 : I 25 3 = nn n := hI
      simp (decide := true) only [ok_bn, ok_rd, ok_ite, ok_rt, bup_ne, e25, if_neg l1]
      exact ⟨B, rfl, hB⟩) FU 0 (bup I 191 (fun k => if k < 10 then 0 else I 191 k)) (by rw [FU_eq]; omega)
    ⟨rfl, _, rfl, fun s hs => ⟨0, by decide, by rw [if_pos hs]; rfl, fun b hb => by
      rw [Nat.zero_testBit]
      constructor
      · intro h; cases h
      · rintro ⟨i, hi, _⟩; omega⟩⟩
  obtain ⟨u, K, h1, B, rfl, hB⟩ := lp
  refine ⟨B, ?_, fun s hs => ?_, fun s hs => ?_⟩
  · unfold F_Port_drawMap
    rw [bn_of (fill_A h191 (by decide))]
    exact h1
  · obtain ⟨m1, a1, a2, a3⟩ := hB s hs
    obtain ⟨m2, b1, b2, b3⟩ := hm s hs
    rw [a2, b2, msk_eq a1 b1 (fun b hb => ?_)]
    rw [a3 b hb, b3 b hb]
    constructor
    · rintro ⟨i, i1, -, i3⟩; exact ⟨i, i1, i3⟩
    · rintro ⟨i, i1, i3⟩; exact ⟨i, i1, trivial, i3⟩
  · obtain ⟨m1, a1, a2, -⟩ := hB s hs
    exact ⟨m1, a1, a2⟩
/-- the map is the class's alone -/
theorem rl_map {I J : MI} (hr : Rl I J) (B : Nat → Int32) : Rl (bup I 191 B) (bup J 207 (upd (J 207) 0 0)) := rl_none [191] [] [0] hr (ui_bup (ui_refl _ _) rfl) (uj_fld (uj_refl _ _ _) rfl) (ut_bup (ut_refl _) rfl) rfl rfl rfl rfl
theorem c_street (x y : Int32) : Call (F_A_street x y) (F_R_street x y) := by
  refine call_of fun I J hr => ?_
  obtain ⟨⟨k1, -, -, -, -, k6, -⟩, -, -, -, kc⟩ := id hr
  obtain ⟨r1, r2, np, na, r3⟩ := k1
  obtain ⟨w7, h6, w8, h18, w4, w6, wp, wh, wi, wo, ws, wu⟩ := id r3
  obtain ⟨b1, b2, b3, b4, b5, b6⟩ := id r2
  obtain ⟨-, -, -, -, -, -, -, u7, -, u23, u41, -⟩ := id r1
  have j7 : J 207 7 = nn na := b2.trans w8
  unfold F_A_street F_R_street F_Port_neighbours
  rcases rng (v := x) 0 9 (by decide) (by decide) with ⟨k, -, hk, rfl⟩ | out
  · have q := rng_in (a := 0) (b := 9) (by decide) (Nat.zero_le k) hk
    have wA : F_A_within (nn k) 0 9 = rt 1 := wi_in q.1 q.2
    have wR : F_R_isStreet (nn k) = rt 1 := st_in q.1 q.2
    have i6 : inR (nn k) 10 = true := inR_nn (by omega) (by omega)
    have i20 : inR (nn k) 20 = true := inR_nn (by omega) (by omega)
    have t6 : (nn k).toNatClampNeg = k := nn_nat (by omega)
    have e7 : 7 + nn k = nn (7 + k) := nn_add 7 k
    have i7 : inR (nn (7 + k)) 95 = true := inR_nn (by omega) (by omega)
    have t7 : (nn (7 + k)).toNatClampNeg = 7 + k := nn_nat (by omega)
    have e3 : J 208 (7 + k) = I 3 k := u7 k (by omega)
    rcases rng (v := y) 0 2 (by decide) (by decide) with ⟨c, -, hc, rfl⟩ | out2
    · have q := rng_in (a := 0) (b := 2) (by decide) (Nat.zero_le c) hc
      have wR2 : F_R_isIn (nn c) 0 2 = rt 1 := ri_in q.1 q.2
      match c, hc with
      | 0, _ =>
        simp (decide := true) only [ok_bn, ok_wr, ok_rd, ok_rt, ok_ite, ok_ld, wA, wR, wR2, i6, t6, e7, i7, t7, e3, bup_eq, bup_ne, if_true, if_false, true_and]
        exact rl_told hr
      | 1, _ =>
        have sA : F_World_outIn 2 (nn k) I = _ := outIn_A w8 h18
        have sR : K_R_street_56 (nn k) 0 0 (bup J 207 (upd (J 207) 0 0)) = _ := outIn_R (na := na) (by exact j7) h18
        have se : setF (fun q => decide (J 208 (41 + q) = 1) && decide (J 208 (23 + q) = nn k)) na = setF (fun q => !decide (I (2 + 8) q = 0) && decide (I (2 + 7) q = nn k)) na := setF_congr fun q hq => by
          rw [u41 q (by omega), u23 q (by omega), bit_eq (wo q (by omega))]
        simp (decide := true) only [ok_bn, ok_wr, ok_rd, ok_rt, ok_ite, ok_ld, wA, wR, wR2, ok_eq sA, ok_eq sR, bup_eq, bup_ne, se, if_true, if_false, true_and]
        exact rl_told hr
      | 2, _ =>
        obtain ⟨B, m1, m2, -⟩ := map_ok k6 (con_at kc (t := 25) (w := 2) (r := 16) (by decide)).1
        have eB : J 228 k = B k := (m2 k (by omega)).symm
        simp (decide := true) only [ok_bn, ok_wr, ok_rd, ok_rt, ok_ite, ok_ld, wA, wR, wR2, ok_eq m1, i6, i20, t6, eB, bup_eq, bup_ne, if_true, if_false, true_and]
        exact rl_map hr B
      | c + 3, h => omega
    · have wR2 : F_R_isIn y 0 2 = rt 0 := ri_out out2
      have ne : ∀ c, c ≤ 2 → ¬ y = nn c := by
        intro c hc e
        subst e
        have q := rng_in (a := 0) (b := 2) (by decide) (Nat.zero_le c) hc
        rcases out2 with h | h
        · exact q.1 h
        · exact q.2 h
      have n0 : ¬ y = 0 := ne 0 (by decide)
      have n1 : ¬ y = 1 := ne 1 (by decide)
      have n2 : ¬ y = 2 := ne 2 (by decide)
      simp (decide := true) only [ok_bn, ok_wr, ok_rd, ok_rt, ok_ite, ok_ld, wA, wR, wR2, if_neg n0, if_neg n1, if_neg n2, if_true, if_false, true_and]
      exact rl_told hr
  · have wA : F_A_within x 0 9 = rt 0 := wi_out out
    have wR : F_R_isStreet x = rt 0 := st_out out
    simp (decide := true) only [ok_bn, ok_wr, ok_rd, ok_rt, ok_ite, ok_ld, wA, wR, if_true, if_false, true_and]
    exact rl_told hr
end SC8
