/-! act -/
section SC37
theorem upd_swap {f : Nat → Int32} {i j : Nat} {a b : Int32} (h : i ≠ j) : upd (upd f i a) j b = upd (upd f j b) i a := by
  funext k
  by_cases h1 : k = j
  · subst h1; rw [upd_eq, upd_ne _ _ (Ne.symm h), upd_eq]
  · rw [upd_ne _ _ h1]
    by_cases h2 : k = i
    · subst h2; rw [upd_eq, upd_eq]
    · rw [upd_ne _ _ h2, upd_ne _ _ h2, upd_ne _ _ h1]
theorem c_act (x y v : Int32) : Call (F_A_act x y v) (F_R_act x y v) := by
  refine call_of fun I J hr => ?_
  have told := rl_told hr
  unfold F_R_act F_R_canAct K_R_act_41 F_A_act
  simp only [isA_R, isA_A, isP_R, ok_bn, ok_wr]
  generalize bup J 207 (upd (J 207) 0 0) = K at *
  obtain ⟨⟨k1, -, k3, -⟩, -, -, -, kc⟩ := id told
  obtain ⟨r1, r2, np, na, r3⟩ := k1
  obtain ⟨w7, h6, w8, h18, w4, w6, wp, wh, wi, wo, ws, wu⟩ := id r3
  obtain ⟨b1, b2, b3, b4, b5, b6⟩ := id r2
  obtain ⟨-, -, -, -, x4, -, -, -, x17, x23, x41, x59, x77⟩ := id r1
  have j6 : K 207 6 = nn np := b1.trans w7
  have j7 : K 207 7 = nn na := b2.trans w8
  obtain ⟨_, I1, e1, _, J1, e2, rl1, f1, f2, f3⟩ := h_keep told
  have r4 : bW I1 2 np na := k_bW (fun c h1 h2 => f1 c (by omega) (by omega)) r3
  have TT0 := tt_0 rl1 r4
  by_cases x0 : x = 0
  · subst x0
    rcases nlt (x := y) na (by omega) with ⟨a, ha, rfl⟩ | out
    · have ha2 : a < 18 := by omega
      have cA : isX 2 8 (nn a) I = some (1, I) := isX_in w8 ha (by omega)
      have cR : isX 207 7 (nn a) K = some (1, K) := isX_in j7 ha (by omega)
      have i1 : inR (nn a) 18 = true := inR_nn ha2 (by omega)
      have t1 : (nn a).toNatClampNeg = a := nn_nat (by omega)
      have sR := isStruck_R (J := K) ha2
      rw [x77 a ha2] at sR
      rcases ws a ha2 with q0 | q0
      · have q0' : I 12 a = 0 := q0
        rw [q0, if_neg (by decide)] at sR
        rcases rng (v := v) 0 9 (by decide) (by decide) with ⟨s, -, hs, rfl⟩ | out2
        · have qs := rng_in (a := 0) (b := 9) (k := s) (by decide) (Nat.zero_le s) hs
          have st : F_R_isStreet (nn s) = rt 1 := st_in qs.1 qs.2
          have wA : F_A_within (nn s) 0 9 = rt 1 := wi_in qs.1 qs.2
          obtain ⟨_, I2, e3, _, J2, e4, tt⟩ := h_out (Or.inl rfl) TT0 ha2 (s := s) (by omega)
          simp (decide := true) only [ok_bn, ok_ld, ok_rt, ok_ite, ok_gdZ, ok_eq cA, ok_eq cR, i1, t1, q0', ok_eq sR, st, wA, ok_eq e1, ok_eq e2, ok_eq e3, ok_eq e4, if_true, if_false, true_and, or_true]
          exact rl_tt rl1 tt
        · have st : F_R_isStreet v = rt 0 := st_out out2
          have wA : F_A_within v 0 9 = rt 0 := wi_out out2
          simp (decide := true) only [ok_bn, ok_ld, ok_rt, ok_ite, ok_gdZ, ok_eq cA, ok_eq cR, i1, t1, q0', ok_eq sR, st, wA, if_true, if_false, true_and, true_or]
          exact told
      · have q0' : I 12 a = 1 := q0
        rw [q0, if_pos rfl] at sR
        simp (decide := true) only [ok_bn, ok_ld, ok_rt, ok_ite, ok_gdZ, ok_eq cA, ok_eq cR, i1, t1, q0', ok_eq sR, if_true, if_false, true_and, true_or]
        exact told
    · have cA : isX 2 8 y I = some (0, I) := isX_out w8 out
      have cR : isX 207 7 y K = some (0, K) := isX_out j7 out
      simp (decide := true) only [ok_bn, ok_rt, ok_ite, ok_gdZ, ok_eq cA, ok_eq cR, if_true, if_false, true_and, true_or]
      exact told
  by_cases x1 : x = 1
  · subst x1
    rcases nlt (x := y) na (by omega) with ⟨a, ha, rfl⟩ | out
    · have ha2 : a < 18 := by omega
      have cA : isX 2 8 (nn a) I = some (1, I) := isX_in w8 ha (by omega)
      have cR : isX 207 7 (nn a) K = some (1, K) := isX_in j7 ha (by omega)
      have i1 : inR (nn a) 18 = true := inR_nn ha2 (by omega)
      have t1 : (nn a).toNatClampNeg = a := nn_nat (by omega)
      have sR := isOut_R (J := K) ha2
      rw [x41 a ha2] at sR
      rcases wo a ha2 with q0 | q0
      · have q0' : I 10 a = 0 := q0
        rw [q0, if_neg (by decide)] at sR
        simp (decide := true) only [ok_bn, ok_ld, ok_rt, ok_ite, ok_gdZ, ok_eq cA, ok_eq cR, i1, t1, q0', ok_eq sR, if_true, if_false, true_and, true_or]
        exact told
      · have q0' : I 10 a = 1 := q0
        rw [q0, if_pos rfl] at sR
        obtain ⟨_, I2, e3, _, J2, e4, tt⟩ := h_home (Or.inl rfl) TT0 ha
        simp (decide := true) only [ok_bn, ok_ld, ok_rt, ok_ite, ok_gdZ, ok_eq cA, ok_eq cR, i1, t1, q0', ok_eq sR, ok_eq e1, ok_eq e2, ok_eq e3, ok_eq e4, if_true, if_false, true_and, or_true]
        exact rl_tt rl1 tt
    · have cA : isX 2 8 y I = some (0, I) := isX_out w8 out
      have cR : isX 207 7 y K = some (0, K) := isX_out j7 out
      simp (decide := true) only [ok_bn, ok_rt, ok_ite, ok_gdZ, ok_eq cA, ok_eq cR, if_true, if_false, true_and, true_or]
      exact told
  by_cases x2 : x = 2
  · subst x2
    unfold F_A_pay
    simp only [isP_A]
    rcases nlt (x := y) np (by omega) with ⟨p, hp, rfl⟩ | out
    · have hp2 : p < 6 := by omega
      have cA : isX 2 7 (nn p) I = some (1, I) := isX_in w7 hp (by omega)
      have cR : isX 207 6 (nn p) K = some (1, K) := isX_in j6 hp (by omega)
      have i1 : inR (nn p) 6 = true := inR_nn hp2 (by omega)
      have t1 : (nn p).toNatClampNeg = p := nn_nat (by omega)
      have a17 : (17 : Int32) + nn p = nn (17 + p) := nn_add 17 p
      have i17 : inR (nn (17 + p)) 95 = true := inR_nn (by omega) (by omega)
      have t17 : (nn (17 + p)).toNatClampNeg = 17 + p := nn_nat (by omega)
      obtain ⟨q, hq, hq2⟩ := wu p hp2
      have hq3 : I 5 p = nn q := hq2
      have v1 : K 208 (17 + p) = nn q := (x17 p hp2).trans hq2
      have j5 : K 207 5 = 0 := kc.2.2.2.2.2
      have v4 : K 208 4 = I 2 1 := x4
      have g21 : I1 2 1 = I 2 1 := by rw [f1 2 (by decide) (by decide)]
      have g5 : I1 5 p = nn q := by rw [f1 5 (by decide) (by decide)]; exact hq3
      have g17 : J1 208 (17 + p) = nn q := by rw [f2]; exact v1
      have g4 : J1 208 4 = I 2 1 := by rw [f2]; exact v4
      have i4 : inR (4 : Int32) 95 = true := by decide
      have t4 : (4 : Int32).toNatClampNeg = 4 := by decide
      generalize hch : I 2 1 = ch at *
      by_cases g : 0 < (if nn q < ch then nn q else ch)
      · have g2 : 0 < ch := by
          by_cases h : nn q < ch
          · rw [if_pos h] at g; exact Int32.lt_trans g h
          · rw [if_neg h] at g; exact g
        have g1 : 0 < nn q := by
          by_cases h : nn q < ch
          · rw [if_pos h] at g; exact g
          · rw [Int32.lt_iff_toInt_lt] at g2 h ⊢; omega
        obtain ⟨t, ht, ht2⟩ : ∃ t, t ≤ q ∧ (if nn q < ch then nn q else ch) = nn t := by
          by_cases h : nn q < ch
          · exact ⟨q, Nat.le_refl _, if_pos h⟩
          · rw [if_neg h]
            exact of_le (n := q) (by omega) (fun z => Int32.lt_irrefl (Int32.lt_trans g2 z)) h
        rw [ht2] at g
        have sq : nn q - nn t = nn (q - t) := nn_sub ht
        have T1 := tt_3 (Or.inl rfl) hp2 (q := q - t) (by omega) (tt_f1 (x := ch - nn t) (Or.inl rfl) TT0)
        simp (decide := true) only [bup_ne, bup_eq, bup_bup] at T1
        rw [upd_swap (show (4 : Nat) ≠ 17 + p by omega)] at T1
        have h5 : (bup J1 208 (upd (upd (J1 208) (17 + p) (nn (q - t))) 4 (ch - nn t))) 207 5 = 0 := by
          rw [bup_ne _ _ (by decide), f3 5 (by decide)]; exact j5
        obtain ⟨_, I3, e5, _, J3, e6, tt⟩ := h_write (a := 4) (b := nn p) (c := nn t) (Or.inl rfl) h5 T1
        have u4 : ∀ z, (upd (J1 208) (17 + p) z) 4 = ch := fun z => by rw [upd_ne _ _ (by omega)]; exact g4
        simp (decide := true) only [ok_bn, ok_ld, ok_rd, ok_sr, ok_wr, ok_rt, ok_ite, ok_gdZ, ok_eq cA, ok_eq cR, i1, t1, a17, i17, t17, i4, t4, hch, hq3, v1, v4, g4, le_R, ht2, if_pos g, if_pos g1, if_pos g2, ok_eq e1, ok_eq e2, g21, g5, g17, u4, sq, bup_ne, bup_eq, bup_bup, ok_eq e5, ok_eq e6, if_true, if_false, true_and, or_true]
        exact rl_tt rl1 tt
      · by_cases g1 : 0 < nn q
        · have g2 : ¬ 0 < ch := fun g2 => g (by
            by_cases h : nn q < ch
            · rw [if_pos h]; exact g1
            · rw [if_neg h]; exact g2)
          simp (decide := true) only [ok_bn, ok_ld, ok_rd, ok_rt, ok_ite, ok_gdZ, ok_eq cA, ok_eq cR, i1, t1, a17, i17, t17, i4, t4, hch, hq3, v1, v4, g4, if_neg g, if_pos g1, if_neg g2, if_true, if_false, true_and, true_or]
          exact told
        · simp (decide := true) only [ok_bn, ok_ld, ok_rd, ok_rt, ok_ite, ok_gdZ, ok_eq cA, ok_eq cR, i1, t1, a17, i17, t17, i4, t4, hch, hq3, v1, v4, g4, if_neg g, if_neg g1, if_true, if_false, true_and, true_or]
          exact told
    · have cA : isX 2 7 y I = some (0, I) := isX_out w7 out
      have cR : isX 207 6 y K = some (0, K) := isX_out j6 out
      simp (decide := true) only [ok_bn, ok_rt, ok_ite, ok_gdZ, ok_eq cA, ok_eq cR, if_true, if_false, true_and, true_or]
      exact told
  · simp (decide := true) only [ok_bn, ok_rt, ok_ite, ok_gdZ, if_neg x0, if_neg x1, if_neg x2, if_true, if_false, true_and, true_or]
    exact told
end SC37
