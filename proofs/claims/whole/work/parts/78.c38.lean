/-! an hour: the diary and the shares -/
section SC38
def HC (h w np na : Nat) (z : Int32) (I0 J0 : MI) : Prop := (h = 110 ∧ w = 2 ∧ z = 0 ∨ h = 122 ∧ w = 111 ∧ z = 1) ∧ I0 h 2 = z ∧ J0 207 5 = z ∧ bLaw I0 16 J0 ∧ bSha I0 21 J0 ∧ bDia I0 23 w J0 ∧ I0 17 0 = nn 4 ∧ I0 21 0 = nn 4 ∧ I0 23 0 = nn 5 ∧ I0 w 7 = nn np ∧ I0 w 8 = nn na
theorem hc_at {h w np na : Nat} {z e : Int32} {I0 J0 I J : MI} (c : HC h w np na z I0 J0) (t : TT w np na z e I0 J0 I J) : hw h = w ∧ (w = 2 ∨ w = 111) ∧ I h 2 = z ∧ J 207 5 = z ∧ bLaw I 16 J ∧ I 17 0 = nn 4 ∧ J 207 = J0 207 ∧ (z = 0 ∨ z = 1) := by
  obtain ⟨c1, c2, c3, c4, c5, c6, c7, -, -, -, -⟩ := c
  obtain ⟨t1, t2, -⟩ := t
  have j7 : J 207 = J0 207 := t2 207 (by decide) (by decide) (by decide) (by decide)
  have hw2 : w = 2 ∨ w = 111 := by omega
  refine ⟨?_, hw2, ?_, by rw [j7]; exact c3, k_Law (fun c h1 h2 => t1 c (by omega) (by omega) (by omega)) (t2 218 (by decide) (by decide) (by decide) (by decide)) (t2 219 (by decide) (by decide) (by decide) (by decide)) (t2 220 (by decide) (by decide) (by decide) (by decide)) (t2 221 (by decide) (by decide) (by decide) (by decide)) (t2 222 (by decide) (by decide) (by decide) (by decide)) (t2 223 (by decide) (by decide) (by decide) (by decide)) (t2 224 (by decide) (by decide) (by decide) (by decide)) c4, ?_, j7, ?_⟩
  · rcases c1 with ⟨rfl, rfl, -⟩ | ⟨rfl, rfl, -⟩ <;> rfl
  · rw [t1 h (by omega) (by omega) (by omega)]; exact c2
  · rw [t1 17 (by omega) (by omega) (by omega)]; exact c7
  · rcases c1 with ⟨-, -, q⟩ | ⟨-, -, q⟩
    · exact Or.inl q
    · exact Or.inr q
theorem h_note {h w np na : Nat} {z e a b d : Int32} {I0 J0 I J : MI} (c : HC h w np na z I0 J0) (t : TT w np na z e I0 J0 I J) : Ok (F_Hours_note h a b d) I fun _ I1 => Ok (F_R_writes a b d) J fun _ J1 => TT w np na z e I0 J0 I1 J1 := by
  obtain ⟨hwe, hw2, g1, g2, -, -, -, hz⟩ := hc_at c t
  rcases hz with rfl | rfl
  · obtain ⟨_, I1, e1, _, J1, e2, q⟩ := h_write (a := a) (b := b) (c := d) hw2 g2 t
    unfold F_Hours_note
    simp only [ok_bn, ok_rd, ok_ite, g1, hwe, if_true, ok_eq e1, ok_rt, ok_eq e2]
    exact q
  · unfold F_Hours_note F_R_writes
    simp (decide := true) only [ok_bn, ok_rd, ok_ite, g1, g2, if_false, ok_rt]
    exact t
theorem h_line {h w np na m : Nat} {z e kc kr who v : Int32} {I0 J0 I J : MI} (c : HC h w np na z I0 J0) (t : TT w np na z e I0 J0 I J) (hm : m + 4 < 160) (v1 : J 227 (m + 2) = kr) (v2 : J 227 (m + 3) = who) (v3 : J 227 (m + 4) = v) (hd : rDia np na kc kr who v) : Ok (F_Hours_keepLine h kc who v) I fun _ I1 => Ok (F_R_does (nn m)) J fun _ J1 => TT w np na z e I0 J0 I1 J1 := by
  obtain ⟨hwe, hw2, -, -, -, -, -, -⟩ := hc_at c t
  obtain ⟨-, -, tR, tS, ⟨w7, h6, w8, h18, -, -, -, -, -, -, ws, wu⟩, -, -⟩ := id t
  obtain ⟨-, -, -, -, -, -, -, x7, x17, x23, x41, x59, x77⟩ := id tR
  have m2 : nn m + 2 = nn (m + 2) := nn_add m 2
  have m3 : nn m + 3 = nn (m + 3) := nn_add m 3
  have m4 : nn m + 4 = nn (m + 4) := nn_add m 4
  have i2 : inR (nn (m + 2)) 160 = true := inR_nn (by omega) (by omega)
  have i3 : inR (nn (m + 3)) 160 = true := inR_nn (by omega) (by omega)
  have i4 : inR (nn (m + 4)) 160 = true := inR_nn (by omega) (by omega)
  have t2 : (nn (m + 2)).toNatClampNeg = m + 2 := nn_nat (by omega)
  have t3 : (nn (m + 3)).toNatClampNeg = m + 3 := nn_nat (by omega)
  have t4 : (nn (m + 4)).toNatClampNeg = m + 4 := nn_nat (by omega)
  unfold F_Hours_keepLine K_Hours_keepLine_41 K_Hours_keepLine_70 K_Hours_keepLine_99 F_R_does K_R_does_47 K_R_does_80
  simp only [isA_A, isP_A, hwe, ok_bn, ok_ld, m2, m3, m4, i2, i3, i4, t2, t3, t4, v1, v2, v3, true_and]
  rcases hd with ⟨rfl, rfl, ⟨a, ha, rfl⟩, s, hs, rfl⟩ | ⟨rfl, rfl, ⟨p, hp, rfl⟩, s, hs, rfl⟩ | ⟨rfl, rfl, a, ha, rfl⟩ | ⟨rfl, rfl, ⟨p, hp, rfl⟩, s, hs, rfl⟩
  · have ha2 : a < 18 := by omega
    have cA : isX w 8 (nn a) I = some (1, I) := isX_in w8 ha (by omega)
    have i1 : inR (nn a) 18 = true := inR_nn ha2 (by omega)
    have t1 : (nn a).toNatClampNeg = a := nn_nat (by omega)
    have sR := isStruck_R (J := J) ha2
    rw [x77 a ha2] at sR
    rcases ws a ha2 with q0 | q0
    · rw [q0, if_neg (by decide)] at sR
      obtain ⟨_, I2, e3, _, J2, e4, tt⟩ := h_out hw2 t ha2 hs
      simp (decide := true) only [ok_bn, ok_ld, ok_rt, ok_ite, ok_eq cA, i1, t1, q0, ok_eq sR, ok_eq e3, ok_eq e4, if_true, if_false, true_and]
      exact tt
    · rw [q0, if_pos rfl] at sR
      simp (decide := true) only [ok_bn, ok_ld, ok_rt, ok_ite, ok_eq cA, i1, t1, q0, ok_eq sR, if_true, if_false, true_and]
      exact t
  · have hp2 : p < 6 := by omega
    have cA : isX w 7 (nn p) I = some (1, I) := isX_in w7 hp (by omega)
    have a17 : (17 : Int32) + nn p = nn (17 + p) := nn_add 17 p
    have i17 : inR (nn (17 + p)) 95 = true := inR_nn (by omega) (by omega)
    have t17 : (nn (17 + p)).toNatClampNeg = 17 + p := nn_nat (by omega)
    obtain ⟨q, hq, hq2⟩ := wu p hp2
    have vp : J 208 (17 + p) = nn q := (x17 p hp2).trans hq2
    have g := give_A (I := I) hp2 hq2 hq (v := s) (by omega)
    have ls : F_R_lesser 9999 (nn (q + s)) = rt (nn (min (q + s) 9999)) := ls_nn (b := 9999) (by omega) (by omega)
    simp (decide := true) only [ok_bn, ok_ld, ok_sr, ok_rt, ok_ite, ok_eq cA, a17, i17, t17, vp, nn_add, ls, ok_eq g, if_true, if_false, true_and]
    exact tt_3 hw2 hp2 (by omega) t
  · have ha2 : a < 18 := by omega
    have cA : isX w 8 (nn a) I = some (1, I) := isX_in w8 ha (by omega)
    obtain ⟨_, I2, e3, _, J2, e4, tt⟩ := h_home hw2 t ha
    simp (decide := true) only [ok_bn, ok_ld, ok_rt, ok_ite, ok_eq cA, ok_eq e3, ok_eq e4, if_true, if_false, true_and]
    exact tt
  · have qs := rng_in (a := 0) (b := 9) (k := p) (by decide) (Nat.zero_le p) (by omega)
    have wA : F_A_within (nn p) 0 9 = rt 1 := wi_in qs.1 qs.2
    have i1 : inR (nn p) 10 = true := inR_nn (by omega) (by omega)
    have t1 : (nn p).toNatClampNeg = p := nn_nat (by omega)
    have a7 : (7 : Int32) + nn p = nn (7 + p) := nn_add 7 p
    have i7 : inR (nn (7 + p)) 95 = true := inR_nn (by omega) (by omega)
    have t7 : (nn (7 + p)).toNatClampNeg = 7 + p := nn_nat (by omega)
    simp (decide := true) only [ok_bn, ok_sr, ok_rt, ok_ite, wA, i1, t1, a7, i7, t7, if_true, if_false, true_and]
    exact tt_1 hw2 (by omega) t
theorem h_diary {h w np na : Nat} {z e : Int32} {I0 J0 I J : MI} (c : HC h w np na z I0 J0) (t : TT w np na z e I0 J0 I J) : Ok (F_Hours_keepDiary h) I fun _ I1 => Ok (lp B_R_goesBy_2 FU 0) J fun _ J1 => TT w np na z e I0 J0 I1 J1 := by
  obtain ⟨-, -, -, -, -, ⟨n, hn, d1, d2, np0, na0, d3, d4, d5, d6, d7⟩, -, -, c9, c10, c11⟩ := id c
  unfold F_Hours_keepDiary K_Hours_keepDiary_13
  refine lpN n (fun i x I1 y J1 => x = nn i ∧ y = nn (5 * i) ∧ TT w np na z e I0 J0 I1 J1) (fun i x I1 y J1 hi hP => ?_) (fun x I1 y J1 hP => ?_) (by omega) ⟨rfl, rfl, t⟩
  · obtain ⟨rfl, rfl, t1⟩ := hP
    obtain ⟨hwe, hw2, -, -, -, -, j7, -⟩ := hc_at c t1
    have r23 : I1 23 = I0 23 := t1.1 23 (by omega) (by omega) (by omega)
    have r24 : I1 24 = I0 24 := t1.1 24 (by omega) (by omega) (by omega)
    have s27 : J1 227 = J0 227 := t1.2.1 227 (by decide) (by decide) (by decide) (by decide)
    obtain ⟨x0, x1, -⟩ := t1.2.2.1
    have g1 : nn i < nn n := (nn_lt (by omega) (by omega)).mpr hi
    have m5 : (5 : Int32) * nn n = nn (5 * n) := nn_mul 5 n
    have g2 : nn (5 * i) < nn (5 * n) := (nn_lt (by omega) (by omega)).mpr (by omega)
    have tA : ∀ k, k < 5 → F_Table_at 23 (nn i) (nn k) I1 = some (I0 24 (5 * i + k), I1) := fun k hk => by
      have hs : siz shT (23 + 1) = 80 := by decide +kernel
      have q := at_ok (I := I1) (t := 23) (w := 5) (n := n) (i := i) (k := k) (by rw [r23]; exact c9) (by rw [r23]; exact d1) hi hk (by rw [hs]; omega) (by omega) (by decide) (by omega)
      rw [q, show 23 + 1 = 24 from rfl, r24, Nat.mul_comm]
    have a0 : F_Table_at 23 (nn i) 0 I1 = some (I0 24 (5 * i), I1) := tA 0 (by decide)
    have a1 : F_Table_at 23 (nn i) 1 I1 = some (I0 24 (5 * i + 1), I1) := tA 1 (by decide)
    have a2 : F_Table_at 23 (nn i) 2 I1 = some (I0 24 (5 * i + 2), I1) := tA 2 (by decide)
    have a3 : F_Table_at 23 (nn i) 3 I1 = some (I0 24 (5 * i + 3), I1) := tA 3 (by decide)
    have a4 : F_Table_at 23 (nn i) 4 I1 = some (I0 24 (5 * i + 4), I1) := tA 4 (by decide)
    obtain ⟨b0, b1, b3, b4, b5⟩ := d7 i hi
    have b0' : J0 227 (5 * i) = I0 24 (5 * i) := b0
    have b1' : J0 227 (5 * i + 1) = I0 24 (5 * i + 1) := b1
    have i0 : inR (nn (5 * i)) 160 = true := inR_nn (by omega) (by omega)
    have t0 : (nn (5 * i)).toNatClampNeg = 5 * i := nn_nat (by omega)
    have m1 : nn (5 * i) + 1 = nn (5 * i + 1) := nn_add _ 1
    have i1 : inR (nn (5 * i + 1)) 160 = true := inR_nn (by omega) (by omega)
    have u1 : (nn (5 * i + 1)).toNatClampNeg = 5 * i + 1 := nn_nat (by omega)
    have z0 : inR (0 : Int32) 95 = true := by decide
    have z1 : inR (1 : Int32) 95 = true := by decide
    have y0 : (0 : Int32).toNatClampNeg = 0 := by decide
    have y1 : (1 : Int32).toNatClampNeg = 1 := by decide
    have m55 : nn (5 * i) + 5 = nn (5 * (i + 1)) := by rw [show 5 * (i + 1) = 5 * i + 5 by omega]; exact nn_add _ 5
    have d1' : I0 23 3 = nn n := d1
    unfold B_Hours_keepDiary_13 B_R_goesBy_2
    simp only [ok_bn, ok_rd, ok_ld, ok_ite, ok_rt, r23, d1', if_pos g1, ok_eq a0, ok_eq a1, ok_eq a2, ok_eq a3, ok_eq a4, hwe, j7, d2, m5, if_pos g2, i0, t0, s27, b0', b1', x0, x1, z0, z1, y0, y1, m1, i1, u1, true_and, nn_s, m55]
    by_cases q1 : I0 24 (5 * i) = I1 w 5
    · by_cases q2 : I0 24 (5 * i + 1) = I1 w 4
      · obtain ⟨-, -, -, -, ⟨-, hnp, -, hna, -⟩, -, -⟩ := id t1
        have enp : np0 = np ∧ na0 = na := ⟨(nn_inj (by omega) (by omega)).mp (d3.symm.trans c10), (nn_inj (by omega) (by omega)).mp (d5.symm.trans c11)⟩
        obtain ⟨rfl, rfl⟩ := enp
        obtain ⟨_, I2, e1, _, J2, e2, q⟩ := h_line (m := 5 * i) (kc := I0 24 (5 * i + 2)) (kr := J0 227 (5 * i + 2)) (who := I0 24 (5 * i + 3)) (v := I0 24 (5 * i + 4)) c t1 (by omega) (by rw [s27]) (by rw [s27]; exact b3) (by rw [s27]; exact b4) b5
        simp only [if_pos q1, if_pos q2, ok_eq e1, ok_eq e2, sd_l]
        exact ⟨trivial, trivial, q⟩
      · simp only [if_pos q1, if_neg q2, sd_l]
        exact ⟨trivial, trivial, t1⟩
    · simp only [if_neg q1, sd_l]
      exact ⟨trivial, trivial, t1⟩
  · obtain ⟨rfl, rfl, t1⟩ := hP
    obtain ⟨hwe, hw2, -, -, -, -, j7, -⟩ := hc_at c t1
    have r23 : I1 23 = I0 23 := t1.1 23 (by omega) (by omega) (by omega)
    have g1 : ¬ nn n < nn n := fun q => by have := (nn_lt (by omega) (by omega)).mp q; omega
    have m5 : (5 : Int32) * nn n = nn (5 * n) := nn_mul 5 n
    have g2 : ¬ nn (5 * n) < nn (5 * n) := fun q => by have := (nn_lt (by omega) (by omega)).mp q; omega
    have d1' : I0 23 3 = nn n := d1
    unfold B_Hours_keepDiary_13 B_R_goesBy_2
    simp only [ok_bn, ok_rd, ok_ite, ok_rt, r23, d1', if_neg g1, j7, d2, m5, if_neg g2, sd_r]
    exact t1
end SC38
