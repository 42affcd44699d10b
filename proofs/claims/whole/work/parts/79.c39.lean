/-! an hour: the shares, the cousins -/
section SC39
theorem h_share1 {h w np na a : Nat} {z e : Int32} {I0 J0 I J : MI} (c : HC h w np na z I0 J0) (t : TT w np na z e I0 J0 I J) (ha : a < na) : Ok (F_Hours_shareOut h (nn a)) I fun _ I1 => Ok (F_R_bySharesOf (nn a)) J fun _ J1 => TT w np na z e I0 J0 I1 J1 := by
  obtain ⟨hwe, hw2, -, -, -, -, j7, -⟩ := hc_at c t
  obtain ⟨-, -, -, -, ⟨n, hn, d1, d2, d3⟩, -, -, c8, -⟩ := id c
  obtain ⟨-, -, -, -, ⟨-, -, -, h18, -⟩, -, -⟩ := id t
  have ha2 : a < 18 := by omega
  have r21 : I 21 = I0 21 := t.1 21 (by omega) (by omega) (by omega)
  have r22 : I 22 = I0 22 := t.1 22 (by omega) (by omega) (by omega)
  have s26 : J 226 = J0 226 := t.2.1 226 (by decide) (by decide) (by decide) (by decide)
  obtain ⟨x0, x1, -⟩ := id t.2.2.1
  have d1' : I0 21 3 = nn n := d1
  unfold F_Hours_shareOut K_Hours_shareOut_16 F_R_bySharesOf K_R_bySharesOf_4
  refine bb (P := fun e1 I1 e2 J1 => ((∃ b, (b = 0 ∨ b = 1) ∧ e1 = .inl b ∧ e2 = .inl b) ∨ (e1 = .inr () ∧ e2 = .inr ())) ∧ TT w np na z e I0 J0 I1 J1) (lpN n (fun i x I1 y J1 => (∃ b, (b = 0 ∨ b = 1) ∧ x = (b, nn i) ∧ y = (b, nn (4 * i))) ∧ I1 = I ∧ J1 = J) (fun i x I1 y J1 hi hP => ?_) (fun x I1 y J1 hP => ?_) (by omega) ⟨⟨0, Or.inl rfl, rfl, rfl⟩, rfl, rfl⟩) (fun e1 I1 e2 J1 hP => ?_)
  · obtain ⟨⟨b, hb, rfl, rfl⟩, rfl, rfl⟩ := hP
    have g1 : nn i < nn n := (nn_lt (by omega) (by omega)).mpr hi
    have m4 : (4 : Int32) * nn n = nn (4 * n) := nn_mul 4 n
    have g2 : nn (4 * i) < nn (4 * n) := (nn_lt (by omega) (by omega)).mpr (by omega)
    have tA : ∀ k, k < 4 → F_Table_at 21 (nn i) (nn k) I1 = some (I0 22 (4 * i + k), I1) := fun k hk => by
      have hs : siz shT (21 + 1) = 64 := by decide +kernel
      have q := at_ok (I := I1) (t := 21) (w := 4) (n := n) (i := i) (k := k) (by rw [r21]; exact c8) (by rw [r21]; exact d1) hi hk (by rw [hs]; omega) (by omega) (by decide) (by omega)
      rw [q, show 21 + 1 = 22 from rfl, r22, Nat.mul_comm]
    have a0 : F_Table_at 21 (nn i) 0 I1 = some (I0 22 (4 * i), I1) := tA 0 (by decide)
    have a1 : F_Table_at 21 (nn i) 1 I1 = some (I0 22 (4 * i + 1), I1) := tA 1 (by decide)
    have a2 : F_Table_at 21 (nn i) 2 I1 = some (I0 22 (4 * i + 2), I1) := tA 2 (by decide)
    obtain ⟨b0, b1, b2, s, hs, b3, b3'⟩ := d3 i hi
    have a3 : F_Table_at 21 (nn i) 3 I1 = some (nn s, I1) := (tA 3 (by decide)).trans (by rw [show I0 22 (4 * i + 3) = nn s from b3])
    have b0' : J0 226 (4 * i) = I0 22 (4 * i) := b0
    have b1' : J0 226 (4 * i + 1) = I0 22 (4 * i + 1) := b1
    have b2' : J0 226 (4 * i + 2) = I0 22 (4 * i + 2) := b2
    have i0 : inR (nn (4 * i)) 128 = true := inR_nn (by omega) (by omega)
    have t0 : (nn (4 * i)).toNatClampNeg = 4 * i := nn_nat (by omega)
    have m1 : nn (4 * i) + 1 = nn (4 * i + 1) := nn_add _ 1
    have i1 : inR (nn (4 * i + 1)) 128 = true := inR_nn (by omega) (by omega)
    have u1 : (nn (4 * i + 1)).toNatClampNeg = 4 * i + 1 := nn_nat (by omega)
    have m2 : nn (4 * i) + 2 = nn (4 * i + 2) := nn_add _ 2
    have i2 : inR (nn (4 * i + 2)) 128 = true := inR_nn (by omega) (by omega)
    have u2 : (nn (4 * i + 2)).toNatClampNeg = 4 * i + 2 := nn_nat (by omega)
    have m3 : nn (4 * i) + 3 = nn (4 * i + 3) := nn_add _ 3
    have i3 : inR (nn (4 * i + 3)) 128 = true := inR_nn (by omega) (by omega)
    have u3 : (nn (4 * i + 3)).toNatClampNeg = 4 * i + 3 := nn_nat (by omega)
    have z1 : inR (1 : Int32) 95 = true := by decide
    have y1 : (1 : Int32).toNatClampNeg = 1 := by decide
    have m44 : nn (4 * i) + 4 = nn (4 * (i + 1)) := by rw [show 4 * (i + 1) = 4 * i + 4 by omega]; exact nn_add _ 4
    unfold B_Hours_shareOut_16 B_R_bySharesOf_4 F_Texts_holds F_R_isIn
    simp only [ok_bn, ok_rd, ok_ld, ok_ite, ok_rt, r21, d1', if_pos g1, ok_eq a0, ok_eq a1, ok_eq a2, hwe, j7, d2, m4, if_pos g2, i0, t0, s26, b0', b1', b2', x1, z1, y1, m1, m2, i1, u1, i2, u2, true_and, nn_s, m44, ok_gdZ]
    by_cases q0 : I0 22 (4 * i) = nn a
    · simp only [if_pos q0]
      by_cases q1 : I1 w 4 < I0 22 (4 * i + 1)
      · simp (decide := true) only [if_pos q1, true_or, true_and, if_true]
        exact sd_l.mpr ⟨⟨1, Or.inr rfl, rfl, rfl⟩, rfl, rfl⟩
      · by_cases q2 : I0 22 (4 * i + 2) < I1 w 4
        · simp (decide := true) only [if_neg q1, if_pos q2, true_or, true_and, if_true]
          exact sd_l.mpr ⟨⟨1, Or.inr rfl, rfl, rfl⟩, rfl, rfl⟩
        · obtain ⟨_, I2, e3, _, J2, e4, tt⟩ := h_out hw2 t ha2 hs
          simp (decide := true) only [if_neg q1, if_neg q2, or_true, true_and, if_false, ok_eq a3, m3, i3, u3, s26, b3', ok_eq e3, ok_eq e4, ok_rt]
          exact sd_r.mpr ⟨Or.inr ⟨rfl, rfl⟩, tt⟩
    · simp only [if_neg q0]
      exact sd_l.mpr ⟨⟨b, hb, rfl, rfl⟩, rfl, rfl⟩
  · obtain ⟨⟨b, hb, rfl, rfl⟩, rfl, rfl⟩ := hP
    have g1 : ¬ nn n < nn n := fun q => by have := (nn_lt (by omega) (by omega)).mp q; omega
    have m4 : (4 : Int32) * nn n = nn (4 * n) := nn_mul 4 n
    have g2 : ¬ nn (4 * n) < nn (4 * n) := fun q => by have := (nn_lt (by omega) (by omega)).mp q; omega
    unfold B_Hours_shareOut_16 B_R_bySharesOf_4
    simp only [ok_bn, ok_rd, ok_ite, ok_rt, r21, d1', if_neg g1, j7, d2, m4, if_neg g2]
    exact sd_r.mpr ⟨Or.inl ⟨b, hb, rfl, rfl⟩, t⟩
  · obtain ⟨hq, t1⟩ := hP
    rcases hq with ⟨b, hb, rfl, rfl⟩ | ⟨rfl, rfl⟩
    · unfold K_Hours_shareOut_82 K_R_bySharesOf_82
      rcases hb with rfl | rfl
      · simp only [if_true, ok_rt]
        exact t1
      · obtain ⟨_, I2, e3, _, J2, e4, tt⟩ := h_home hw2 t1 ha
        simp (decide := true) only [if_false, ok_bn, hwe, ok_eq e3, ok_eq e4, ok_rt]
        exact tt
    · simp only [ok_rt]
      exact t1
theorem h_share {h w np na : Nat} {z e : Int32} {I0 J0 I J : MI} (c : HC h w np na z I0 J0) (t : TT w np na z e I0 J0 I J) : Ok (F_Hours_share h) I fun _ I1 => Ok (lp B_R_goesBy_58 FU 0) J fun _ J1 => TT w np na z e I0 J0 I1 J1 := by
  obtain ⟨-, -, -, -, ⟨-, -, -, hna, -⟩, -, -⟩ := id t
  unfold F_Hours_share K_Hours_share_2
  refine lpN na (fun i x I1 y J1 => x = nn i ∧ y = nn i ∧ TT w np na z e I0 J0 I1 J1) (fun i x I1 y J1 hi hP => ?_) (fun x I1 y J1 hP => ?_) (by omega) ⟨rfl, rfl, t⟩
  · obtain ⟨rfl, rfl, t1⟩ := hP
    obtain ⟨hwe, hw2, -, -, -, -, -, -⟩ := hc_at c t1
    obtain ⟨-, -, tR, tS, ⟨-, -, w8, -, -, -, -, -, -, -, ws, -⟩, -, -⟩ := id t1
    have j8 : J1 207 7 = nn na := tS.2.1.trans w8
    have hi2 : i < 18 := by omega
    have g1 : nn i < nn na := (nn_lt (by omega) (by omega)).mpr hi
    have i1 : inR (nn i) 18 = true := inR_nn hi2 (by omega)
    have u1 : (nn i).toNatClampNeg = i := nn_nat (by omega)
    have sR := isStruck_R (J := J1) hi2
    rw [tR.2.2.2.2.2.2.2.2.2.2.2.2 i hi2] at sR
    unfold B_Hours_share_2 B_R_goesBy_58
    rcases ws i hi2 with q0 | q0
    · rw [q0, if_neg (by decide)] at sR
      obtain ⟨_, I2, e3, _, J2, e4, tt⟩ := h_share1 c t1 hi
      simp only [ok_bn, ok_rd, ok_ld, ok_ite, ok_rt, hwe, w8, j8, if_pos g1, i1, u1, q0, ok_eq sR, if_true, ok_eq e3, ok_eq e4, true_and, nn_s]
      exact sd_l.mpr ⟨rfl, rfl, tt⟩
    · rw [q0, if_pos rfl] at sR
      simp (decide := true) only [ok_bn, ok_rd, ok_ld, ok_ite, ok_rt, hwe, w8, j8, if_pos g1, i1, u1, q0, ok_eq sR, if_false, true_and, nn_s]
      exact sd_l.mpr ⟨rfl, rfl, t1⟩
  · obtain ⟨rfl, rfl, t1⟩ := hP
    obtain ⟨hwe, hw2, -, -, -, -, -, -⟩ := hc_at c t1
    obtain ⟨-, -, tR, tS, ⟨-, -, w8, -⟩, -, -⟩ := id t1
    have j8 : J1 207 7 = nn na := tS.2.1.trans w8
    have g1 : ¬ nn na < nn na := fun q => by have := (nn_lt (by omega) (by omega)).mp q; omega
    unfold B_Hours_share_2 B_R_goesBy_58
    simp only [ok_bn, ok_rd, ok_ite, ok_rt, hwe, w8, j8, if_neg g1]
    exact sd_r.mpr t1
theorem upd_self {f : Nat → Int32} {k : Nat} {x : Int32} (h : f k = x) : upd f k x = f := by
  funext j
  by_cases e : j = k
  · subst e; rw [upd_eq, h]
  · rw [upd_ne _ _ e]
/-- who goes himself: best so far -/
theorem h_self {h w np na p : Nat} {z e : Int32} {I0 J0 I J : MI} (c : HC h w np na z I0 J0) (t : TT w np na z e I0 J0 I J) : ∃ b, F_Hours_goesHimself h (nn p) I = some (b, I) ∧ lp (B_R_cousinsOf_4 (nn p)) FU ((-1 : Int32), (0 : Int32)) J = some (b, J) := by
  obtain ⟨hwe, hw2, -, -, -, -, -, -⟩ := hc_at c t
  obtain ⟨-, -, tR, tS, ⟨-, -, w8, hna, -, -, -, -, -, wo, -⟩, -, -⟩ := id t
  obtain ⟨-, -, -, s4, s5, -⟩ := id tS
  have j8 : J 207 7 = nn na := tS.2.1.trans w8
  have key := lpN (b1 := B_Hours_goesHimself_4 h (nn p)) (b2 := B_R_cousinsOf_4 (nn p)) (Q := fun a I1 b J1 => a = b ∧ I1 = I ∧ J1 = J) na (fun i x I1 y J1 => x = y ∧ (∃ b, x = (b, nn i) ∧ (b = -1 ∨ ∃ k, k < na ∧ b = nn k)) ∧ I1 = I ∧ J1 = J) (fun i x I1 y J1 hi hP => by
    obtain ⟨rfl, ⟨b, rfl, hb⟩, rfl, rfl⟩ := hP
    have hi2 : i < 18 := by omega
    have g1 : nn i < nn na := (nn_lt (by omega) (by omega)).mpr hi
    have i1 : inR (nn i) 18 = true := inR_nn hi2 (by omega)
    have u1 : (nn i).toNatClampNeg = i := nn_nat (by omega)
    have sR := isOut_R (J := J1) hi2
    rw [tR.2.2.2.2.2.2.2.2.2.2.1 i hi2] at sR
    have v4 := s4 i hi2
    have v5 := s5 i hi2
    unfold B_Hours_goesHimself_4 B_R_cousinsOf_4 K_Hours_goesHimself_44
    simp only [ok_bn, ok_rd, ok_ld, ok_ite, ok_rt, hwe, w8, j8, if_pos g1, i1, u1, v4, v5, if_true, true_and, nn_s]
    by_cases q1 : I1 (w + 4) i = nn p
    · simp only [if_pos q1]
      rcases wo i hi2 with q0 | q0
      · rw [q0, if_neg (by decide)] at sR
        simp only [q0, ok_eq sR, if_true]
        exact sd_l.mpr ⟨rfl, ⟨b, rfl, hb⟩, rfl, rfl⟩
      · rw [q0, if_pos rfl] at sR
        rcases hb with rfl | ⟨k, hk, rfl⟩
        · simp (decide := true) only [q0, ok_eq sR, if_true, if_false]
          exact sd_l.mpr ⟨rfl, ⟨_, rfl, Or.inr ⟨i, hi, rfl⟩⟩, rfl, rfl⟩
        · have n1 : ¬ nn k = -1 := fun q => by
            have h1 : nn k < 0 := by rw [q]; decide
            exact nn_neg (by omega) h1
          have i2 : inR (nn k) 18 = true := inR_nn (by omega) (by omega)
          have u2 : (nn k).toNatClampNeg = k := nn_nat (by omega)
          have v5k := s5 k (by omega)
          by_cases q3 : I1 (w + 5) k < I1 (w + 5) i
          · simp (decide := true) only [q0, ok_eq sR, if_false, if_neg n1, i2, u2, v5, v5k, if_pos q3, true_and]
            exact sd_l.mpr ⟨rfl, ⟨_, rfl, Or.inr ⟨i, hi, rfl⟩⟩, rfl, rfl⟩
          · simp (decide := true) only [q0, ok_eq sR, if_false, if_neg n1, i2, u2, v5, v5k, if_neg q3, true_and]
            exact sd_l.mpr ⟨rfl, ⟨_, rfl, Or.inr ⟨k, hk, rfl⟩⟩, rfl, rfl⟩
    · simp only [if_neg q1]
      exact sd_l.mpr ⟨rfl, ⟨b, rfl, hb⟩, rfl, rfl⟩) (fun x I1 y J1 hP => by
    obtain ⟨rfl, ⟨b, rfl, hb⟩, rfl, rfl⟩ := hP
    have g1 : ¬ nn na < nn na := fun q => by have := (nn_lt (by omega) (by omega)).mp q; omega
    unfold B_Hours_goesHimself_4 B_R_cousinsOf_4
    simp only [ok_bn, ok_rd, ok_ite, ok_rt, hwe, w8, j8, if_neg g1]
    exact sd_r.mpr ⟨rfl, rfl, rfl⟩) (by omega) (x := ((-1 : Int32), (0 : Int32))) (I := I) (y := ((-1 : Int32), (0 : Int32))) (J := J) ⟨rfl, ⟨-1, rfl, Or.inl rfl⟩, rfl, rfl⟩
  obtain ⟨a, I1, e1, b, J1, e2, rfl, rfl, rfl⟩ := key
  exact ⟨a, e1, e2⟩
theorem h_cous {h w np na p : Nat} {z e : Int32} {I0 J0 I J : MI} (c : HC h w np na z I0 J0) (t : TT w np na z e I0 J0 I J) (hp : p < np) : Ok (F_Hours_sendCousins h (nn p)) I fun _ I1 => Ok (F_R_cousinsOf (nn p)) J fun _ J1 => TT w np na z e I0 J0 I1 J1 := by
  obtain ⟨-, -, -, -, ⟨-, hnp, -, hna, -⟩, -, -⟩ := id t
  have hp6 : p < 6 := by omega
  obtain ⟨b, e1, e2⟩ := h_self (p := p) c t
  unfold F_Hours_sendCousins K_Hours_sendCousins_8 F_R_cousinsOf K_R_cousinsOf_4 K_R_cousinsOf_58 K_R_cousinsOf_60
  simp only [ok_bn, ok_eq e1, ok_eq e2]
  refine lpN na (fun i x I1 y J1 => x = nn i ∧ y = nn i ∧ TT w np na z e I0 J0 I1 J1) (fun i x I1 y J1 hi hP => ?_) (fun x I1 y J1 hP => ?_) (by omega) ⟨rfl, rfl, t⟩
  · obtain ⟨rfl, rfl, t1⟩ := hP
    obtain ⟨hwe, hw2, -, -, -, -, -, -⟩ := hc_at c t1
    obtain ⟨-, -, tR, tS, ⟨-, -, w8, -, -, -, -, -, -, wo, -, wu⟩, -, -⟩ := id t1
    obtain ⟨-, -, -, -, x4, x5, -, -, x17, x23, x41, -, -⟩ := id tR
    have j8 : J1 207 7 = nn na := tS.2.1.trans w8
    have hi2 : i < 18 := by omega
    have g1 : nn i < nn na := (nn_lt (by omega) (by omega)).mpr hi
    have i1 : inR (nn i) 18 = true := inR_nn hi2 (by omega)
    have u1 : (nn i).toNatClampNeg = i := nn_nat (by omega)
    have sR := isOut_R (J := J1) hi2
    rw [x41 i hi2] at sR
    have v4 := tS.2.2.2.1 i hi2
    obtain ⟨q, hq, hq2⟩ := wu p hp6
    have a17 : (17 : Int32) + nn p = nn (17 + p) := nn_add 17 p
    have i17 : inR (nn (17 + p)) 95 = true := inR_nn (by omega) (by omega)
    have t17 : (nn (17 + p)).toNatClampNeg = 17 + p := nn_nat (by omega)
    have a23 : (23 : Int32) + nn i = nn (23 + i) := nn_add 23 i
    have i23 : inR (nn (23 + i)) 95 = true := inR_nn (by omega) (by omega)
    have t23 : (nn (23 + i)).toNatClampNeg = 23 + i := nn_nat (by omega)
    have z5 : inR (5 : Int32) 95 = true := by decide
    have y5 : (5 : Int32).toNatClampNeg = 5 := by decide
    have z4 : inR (4 : Int32) 95 = true := by decide
    have y4 : (4 : Int32).toNatClampNeg = 4 := by decide
    unfold B_Hours_sendCousins_8 B_R_cousinsOf_60
    simp only [ok_bn, ok_rd, ok_ld, ok_ite, ok_rt, hwe, w8, j8, if_pos g1, i1, u1, v4, true_and, nn_s]
    by_cases q1 : I1 (w + 4) i = nn p
    · simp only [if_pos q1]
      rcases wo i hi2 with q0 | q0
      · rw [q0, if_neg (by decide)] at sR
        simp only [q0, ok_eq sR, if_true]
        exact sd_l.mpr ⟨rfl, rfl, t1⟩
      · rw [q0, if_pos rfl] at sR
        by_cases q3 : nn i = b
        · simp (decide := true) only [q0, ok_eq sR, if_false, if_pos q3]
          exact sd_l.mpr ⟨rfl, rfl, t1⟩
        · have T1 := tt_f2 (x := I1 w 2 + 1) hw2 t1
          simp (decide := true) only [q0, ok_eq sR, if_false, if_neg q3, ok_rd, ok_wr, ok_sr, ok_ld, ok_ite, z5, y5, x5, i1, u1, a17, i17, t17, a23, i23, t23, z4, y4, true_and]
          generalize bup I1 w (upd (I1 w) 2 (I1 w 2 + 1)) = A1 at *
          generalize bup J1 208 (upd (J1 208) 5 (I1 w 2 + 1)) = B1 at *
          obtain ⟨-, -, uR, -, ⟨-, -, -, -, -, -, -, -, -, -, -, wu2⟩, -, -⟩ := id T1
          obtain ⟨-, -, -, -, u4, -, -, -, u17, u23, -⟩ := id uR
          obtain ⟨q, hq, hq2⟩ := wu2 p hp6
          have hch := charge_A (w := w) (v := 1) hp6 hq2 hq (by decide)
          have one : nn 1 = (1 : Int32) := rfl
          rw [one] at hch
          have b17 := (u17 p hp6).trans hq2
          have b23 := u23 i hi2
          by_cases hz : q = 0
          · subst hz
            have T2 := tt_f1 (x := A1 w 1 + 1) hw2 T1
            have n0 : ¬ (0 : Int32) < nn 0 := by decide
            have cs : bup A1 (w + 3) (upd (A1 (w + 3)) p (nn (0 - min 1 0))) = A1 := by
              rw [upd_self (x := nn (0 - min 1 0)) hq2, bup_self]
            rw [cs, show nn (1 - min 1 0) = (1 : Int32) from rfl] at hch
            obtain ⟨_, I2, e3, _, J2, e4, tt⟩ := h_note (a := 2) (b := nn i) (d := A1 (w + 7) i) c T2
            have f7 : ∀ g, (bup A1 w g) (w + 7) = A1 (w + 7) := fun g => bup_ne _ _ (by omega)
            have f23 : ∀ g, (upd (B1 208) 4 g) (23 + i) = A1 (w + 7) i := fun g => by rw [upd_ne _ _ (by omega)]; exact b23
            rw [ok_eq hch]
            simp only [b17, if_neg n0, u4, f7, f23, bup_eq, ok_eq e3, ok_eq e4]
            exact sd_l.mpr ⟨rfl, rfl, tt⟩
          · have T2 := tt_3 (q := q - 1) hw2 hp6 (by omega) T1
            have n0 : (0 : Int32) < nn q := (nn_lt (j := 0) (by omega) (by omega)).mpr (by omega)
            have m1 : min 1 q = 1 := by omega
            have m2 : nn q - 1 = nn (q - 1) := nn_sub (j := q) (k := 1) (by omega)
            have cs : bup (bup A1 (w + 3) (upd (A1 (w + 3)) p (nn (q - 1)))) w (upd (A1 w) 1 (A1 w 1 + nn (1 - 1))) = bup A1 (w + 3) (upd (A1 (w + 3)) p (nn (q - 1))) := by
              have g1 : A1 w 1 + nn (1 - 1) = A1 w 1 := Int32.add_zero _
              rw [g1, upd_self rfl]
              have g2 : (bup A1 (w + 3) (upd (A1 (w + 3)) p (nn (q - 1)))) w = A1 w := bup_ne _ _ (by omega)
              rw [← g2, bup_self]
            rw [m1, cs] at hch
            obtain ⟨_, I2, e3, _, J2, e4, tt⟩ := h_note (a := 2) (b := nn i) (d := A1 (w + 7) i) c T2
            have f7 : ∀ g, (bup A1 (w + 3) g) (w + 7) = A1 (w + 7) := fun g => bup_ne _ _ (by omega)
            have f23 : ∀ g, (upd (B1 208) (17 + p) g) (23 + i) = A1 (w + 7) i := fun g => by rw [upd_ne _ _ (by omega)]; exact b23
            rw [ok_eq hch]
            simp only [b17, if_pos n0, m2, f7, f23, bup_eq, ok_eq e3, ok_eq e4]
            exact sd_l.mpr ⟨rfl, rfl, tt⟩
    · simp only [if_neg q1]
      exact sd_l.mpr ⟨rfl, rfl, t1⟩
  · obtain ⟨rfl, rfl, t1⟩ := hP
    obtain ⟨hwe, hw2, -, -, -, -, -, -⟩ := hc_at c t1
    obtain ⟨-, -, tR, tS, ⟨-, -, w8, -⟩, -, -⟩ := id t1
    have j8 : J1 207 7 = nn na := tS.2.1.trans w8
    have g1 : ¬ nn na < nn na := fun q => by have := (nn_lt (by omega) (by omega)).mp q; omega
    unfold B_Hours_sendCousins_8 B_R_cousinsOf_60
    simp only [ok_bn, ok_rd, ok_ite, ok_rt, hwe, w8, j8, if_neg g1]
    exact sd_r.mpr t1
end SC39
