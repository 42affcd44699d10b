/-! an hour: who is seen, what is gained, who is struck off -/
section SC40
theorem min99 {x : Int32} : (if 99 < x then 99 else x) = (if x < 99 then x else 99) := by
  by_cases h1 : x < 99
  · rw [if_pos h1, if_neg (fun h2 => Int32.lt_irrefl (Int32.lt_trans h1 h2))]
  · rw [if_neg h1]
    by_cases h2 : 99 < x
    · rw [if_pos h2]
    · rw [if_neg h2]
      apply Int32.toInt_inj.mp
      rw [Int32.lt_iff_toInt_lt] at h1 h2
      omega
theorem max0 {x : Int32} : (if x < 0 then 0 else x) = (if 0 < x then x else 0) := by
  by_cases h1 : x < 0
  · rw [if_pos h1, if_neg (fun h2 => Int32.lt_irrefl (Int32.lt_trans h1 h2))]
  · rw [if_neg h1]
    by_cases h2 : 0 < x
    · rw [if_pos h2]
    · rw [if_neg h2]
      apply Int32.toInt_inj.mp
      rw [Int32.lt_iff_toInt_lt] at h1 h2
      omega
theorem meet_AR {h w np na i : Nat} {z e : Int32} {I0 J0 I J : MI} (c : HC h w np na z I0 J0) (t : TT w np na z e I0 J0 I J) (hi : i < na) : ∃ m, (m = 0 ∨ m = 1) ∧ F_World_meetsItsOwn w (nn i) I = some (m, I) ∧ F_R_isWithAnother (nn i) J = some (m, J) := by
  obtain ⟨hwe, hw2, -, -, -, -, -, -⟩ := hc_at c t
  obtain ⟨-, -, tR, tS, ⟨-, -, w8, hna, -, -, -, -, -, wo, -⟩, -, -⟩ := id t
  obtain ⟨-, -, -, -, -, -, -, -, -, x23, x41, -, -⟩ := id tR
  have j8 : J 207 7 = nn na := tS.2.1.trans w8
  have hi2 : i < 18 := by omega
  have eA := meets_A (a := i) w8 hna hi2
  have eR := with_R (a := i) j8 hna hi2
  have ec : (List.range na).all (fun k => (decide (k = i) || (!decide (J 212 k = J 212 i) || (!decide (J 208 (41 + k) = 1) || !decide (J 208 (23 + k) = J 208 (23 + i)))))) = (List.range na).all (fun k => !(((!decide (I (w + 8) k = 0) && decide (I (w + 7) k = I (w + 7) i)) && (decide (I (w + 4) k = I (w + 4) i) && (decide ((1 : Int32) = 0) || !decide (I (w + 8) k = 0)))) && !decide (k = i))) := by
    have pt : ∀ k, k ∈ List.range na → (decide (k = i) || (!decide (J 212 k = J 212 i) || (!decide (J 208 (41 + k) = 1) || !decide (J 208 (23 + k) = J 208 (23 + i))))) = !(((!decide (I (w + 8) k = 0) && decide (I (w + 7) k = I (w + 7) i)) && (decide (I (w + 4) k = I (w + 4) i) && (decide ((1 : Int32) = 0) || !decide (I (w + 8) k = 0)))) && !decide (k = i)) := fun k hk => by
      have hk2 : k < 18 := by have := List.mem_range.mp hk; omega
      rw [x41 k hk2, x23 k hk2, x23 i hi2, tS.2.2.2.1 k hk2, tS.2.2.2.1 i hi2, ← bit_eq (wo k hk2)]
      have d1 : decide ((1 : Int32) = 0) = false := by decide
      rw [d1]
      cases decide (k = i) <;> cases decide (I (w + 4) k = I (w + 4) i) <;> cases decide (I (w + 8) k = 0) <;> cases decide (I (w + 7) k = I (w + 7) i) <;> rfl
    rw [Bool.eq_iff_iff, List.all_eq_true, List.all_eq_true]
    exact ⟨fun q k hk => by rw [← pt k hk]; exact q k hk, fun q k hk => by rw [pt k hk]; exact q k hk⟩
  rw [ec] at eR
  refine ⟨_, ?_, eA, eR⟩
  split
  · exact Or.inl rfl
  · exact Or.inr rfl
theorem h_hit {h w np na i : Nat} {z e : Int32} {I0 J0 I J : MI} (c : HC h w np na z I0 J0) (t : TT w np na z e I0 J0 I J) (hi : i < na) (m X : Int32) : ∃ I3 J3, F_Hours_note h m (nn i) X (bup I (w + 9) (upd (I (w + 9)) i X)) = some ((), I3) ∧ F_R_writes m (nn i) X (bup J 208 (upd (J 208) (59 + i) X)) = some ((), J3) ∧ TT w np na z e I0 J0 I3 J3 := by
  obtain ⟨hwe, hw2, -, -, -, -, -, -⟩ := hc_at c t
  obtain ⟨-, -, -, -, ⟨-, -, -, hna, -⟩, -, -⟩ := id t
  obtain ⟨_, I3, e3, _, J3, e4, tt⟩ := h_note (a := m) (b := nn i) (d := X) c (tt_9 (x := X) hw2 (show i < 18 by omega) t)
  exact ⟨I3, J3, e3, e4, tt⟩
theorem h_seen {h w np na : Nat} {z e : Int32} {I0 J0 I J : MI} (c : HC h w np na z I0 J0) (t : TT w np na z e I0 J0 I J) : Ok (F_Hours_beSeen h) I fun _ I1 => Ok (lp B_R_goesBy_108 FU 0) J fun _ J1 => TT w np na z e I0 J0 I1 J1 := by
  obtain ⟨-, -, -, -, ⟨-, -, -, hna, -⟩, -, -⟩ := id t
  unfold F_Hours_beSeen K_Hours_beSeen_2
  refine lpN na (fun i x I1 y J1 => x = nn i ∧ y = nn i ∧ TT w np na z e I0 J0 I1 J1) (fun i x I1 y J1 hi hP => ?_) (fun x I1 y J1 hP => ?_) (by omega) ⟨rfl, rfl, t⟩
  · obtain ⟨rfl, rfl, t1⟩ := hP
    obtain ⟨hwe, hw2, -, -, hl, h4, -, hz⟩ := hc_at c t1
    obtain ⟨-, -, tR, tS, ⟨-, -, w8, -, -, -, -, -, -, wo, -⟩, -, -⟩ := id t1
    have j8 : J1 207 7 = nn na := tS.2.1.trans w8
    have hi2 : i < 18 := by omega
    have g1 : nn i < nn na := (nn_lt (by omega) (by omega)).mpr hi
    have i1 : inR (nn i) 18 = true := inR_nn hi2 (by omega)
    have u1 : (nn i).toNatClampNeg = i := nn_nat (by omega)
    have sR := isOut_R (J := J1) hi2
    rw [tR.2.2.2.2.2.2.2.2.2.2.1 i hi2] at sR
    unfold B_Hours_beSeen_2 B_R_goesBy_108
    simp only [ok_bn, ok_rd, ok_ld, ok_ite, ok_rt, hwe, w8, j8, if_pos g1, i1, u1, true_and, nn_s]
    rcases wo i hi2 with q0 | q0
    · rw [q0, if_neg (by decide)] at sR
      simp only [q0, ok_eq sR, if_true]
      exact sd_l.mpr ⟨rfl, rfl, t1⟩
    · rw [q0, if_pos rfl] at sR
      obtain ⟨_, I2, e1, v, J2, e2, rfl, ⟨s, hs, rfl⟩, f1, f2⟩ := seen_AR hw2 t1 hl h4 hi
      have T2 := tt_same hw2 t1 f1 f2
      obtain ⟨-, -, p2, p5, -, -, -, -⟩ := hc_at c T2
      have a59 : (59 : Int32) + nn i = nn (59 + i) := nn_add 59 i
      have i59 : inR (nn (59 + i)) 95 = true := inR_nn (by omega) (by omega)
      have t59 : (nn (59 + i)).toNatClampNeg = 59 + i := nn_nat (by omega)
      unfold F_R_mightBeSeen K_R_mightBeSeen_49 F_Hours_isSeen
      rcases hz with rfl | rfl
      · by_cases hs0 : 0 < nn s
        · obtain ⟨v, I3, e3, u, J3, e4, rfl, T3⟩ := h_draw hw2 T2
          by_cases hu : u < nn s
          · obtain ⟨m, hm, m1, m2⟩ := meet_AR c T3 hi
            have k59 : J3 208 (59 + i) = I3 (w + 9) i := T3.2.2.1.2.2.2.2.2.2.2.2.2.2.2.1 i hi2
            rcases hm with rfl | rfl
            · obtain ⟨I4, J4, n1, n2, tt⟩ := h_hit c T3 hi 0 (if I3 (w + 9) i + 10 < 99 then I3 (w + 9) i + 10 else 99)
              simp (decide := true) only [q0, ok_eq sR, if_false, ok_eq e1, ok_eq e2, ok_bn, ok_rd, ok_ld, ok_sr, ok_ite, ok_rt, ok_gdZ, p2, p5, hwe, if_pos hs0, ok_eq e3, ok_eq e4, if_pos hu, ok_eq m1, ok_eq m2, i1, u1, a59, i59, t59, k59, le_R, min99, bup_eq, upd_eq, ok_eq n1, ok_eq n2, if_true, true_and, or_true]
              exact sd_l.mpr ⟨rfl, rfl, tt⟩
            · obtain ⟨I4, J4, n1, n2, tt⟩ := h_hit c T3 hi 1 (if I3 (w + 9) i + 30 < 99 then I3 (w + 9) i + 30 else 99)
              simp (decide := true) only [q0, ok_eq sR, if_false, ok_eq e1, ok_eq e2, ok_bn, ok_rd, ok_ld, ok_sr, ok_ite, ok_rt, ok_gdZ, p2, p5, hwe, if_pos hs0, ok_eq e3, ok_eq e4, if_pos hu, ok_eq m1, ok_eq m2, i1, u1, a59, i59, t59, k59, le_R, min99, bup_eq, upd_eq, ok_eq n1, ok_eq n2, if_true, true_and, or_true]
              exact sd_l.mpr ⟨rfl, rfl, tt⟩
          · simp (decide := true) only [q0, ok_eq sR, if_false, ok_eq e1, ok_eq e2, ok_bn, ok_rd, ok_ld, ok_sr, ok_ite, ok_rt, ok_gdZ, p2, p5, hwe, if_pos hs0, ok_eq e3, ok_eq e4, if_neg hu, if_true, true_and, true_or]
            exact sd_l.mpr ⟨rfl, rfl, T3⟩
        · simp (decide := true) only [q0, ok_eq sR, if_false, ok_eq e1, ok_eq e2, ok_bn, ok_rd, ok_ld, ok_sr, ok_ite, ok_rt, ok_gdZ, p2, p5, if_neg hs0, if_true, true_and, true_or]
          exact sd_l.mpr ⟨rfl, rfl, T2⟩
      · have d2 : (2 : Int32) * nn s = nn (2 * s) := nn_mul 2 s
        by_cases hs5 : s < 500
        · have g5 : nn s < 500 := (nn_lt (k := 500) (by omega) (by omega)).mpr hs5
          have g6 : nn (2 * s) < 1000 := (nn_lt (k := 1000) (by omega) (by omega)).mpr (by omega)
          simp (decide := true) only [q0, ok_eq sR, if_false, ok_eq e1, ok_eq e2, ok_bn, ok_rd, ok_ld, ok_sr, ok_ite, ok_rt, ok_gdZ, p2, p5, d2, if_pos g5, if_pos g6, if_true, true_and, true_or]
          exact sd_l.mpr ⟨rfl, rfl, T2⟩
        · have g5 : ¬ nn s < 500 := fun q => hs5 ((nn_lt (k := 500) (by omega) (by omega)).mp q)
          have g6 : ¬ nn (2 * s) < 1000 := fun q => by have := (nn_lt (k := 1000) (by omega) (by omega)).mp q; omega
          obtain ⟨m, hm, m1, m2⟩ := meet_AR c T2 hi
          have k59 : J2 208 (59 + i) = I2 (w + 9) i := T2.2.2.1.2.2.2.2.2.2.2.2.2.2.2.1 i hi2
          rcases hm with rfl | rfl
          · obtain ⟨I4, J4, n1, n2, tt⟩ := h_hit c T2 hi 0 (if I2 (w + 9) i + 10 < 99 then I2 (w + 9) i + 10 else 99)
            simp (decide := true) only [q0, ok_eq sR, if_false, ok_eq e1, ok_eq e2, ok_bn, ok_rd, ok_ld, ok_sr, ok_ite, ok_rt, ok_gdZ, p2, p5, d2, if_neg g5, if_neg g6, ok_eq m1, ok_eq m2, i1, u1, a59, i59, t59, k59, le_R, min99, bup_eq, upd_eq, ok_eq n1, ok_eq n2, if_true, true_and, or_true]
            exact sd_l.mpr ⟨rfl, rfl, tt⟩
          · obtain ⟨I4, J4, n1, n2, tt⟩ := h_hit c T2 hi 1 (if I2 (w + 9) i + 30 < 99 then I2 (w + 9) i + 30 else 99)
            simp (decide := true) only [q0, ok_eq sR, if_false, ok_eq e1, ok_eq e2, ok_bn, ok_rd, ok_ld, ok_sr, ok_ite, ok_rt, ok_gdZ, p2, p5, d2, if_neg g5, if_neg g6, ok_eq m1, ok_eq m2, i1, u1, a59, i59, t59, k59, le_R, min99, bup_eq, upd_eq, ok_eq n1, ok_eq n2, if_true, true_and, or_true]
            exact sd_l.mpr ⟨rfl, rfl, tt⟩
  · obtain ⟨rfl, rfl, t1⟩ := hP
    obtain ⟨hwe, hw2, -, -, -, -, -, -⟩ := hc_at c t1
    obtain ⟨-, -, tR, tS, ⟨-, -, w8, -⟩, -, -⟩ := id t1
    have j8 : J1 207 7 = nn na := tS.2.1.trans w8
    have g1 : ¬ nn na < nn na := fun q => by have := (nn_lt (by omega) (by omega)).mp q; omega
    unfold B_Hours_beSeen_2 B_R_goesBy_108
    simp only [ok_bn, ok_rd, ok_ite, ok_rt, hwe, w8, j8, if_neg g1]
    exact sd_r.mpr t1
theorem h_earn {h w np na : Nat} {z e : Int32} {I0 J0 I J : MI} (c : HC h w np na z I0 J0) (t : TT w np na z e I0 J0 I J) : Ok (F_Hours_earn h) I fun _ I1 => Ok (lp B_R_goesBy_137 FU 0) J fun _ J1 => TT w np na z e I0 J0 I1 J1 := by
  obtain ⟨-, -, -, -, ⟨-, -, -, hna, -⟩, -, -⟩ := id t
  unfold F_Hours_earn K_Hours_earn_13
  refine lpN na (fun i x I1 y J1 => x = nn i ∧ y = nn i ∧ TT w np na z e I0 J0 I1 J1) (fun i x I1 y J1 hi hP => ?_) (fun x I1 y J1 hP => ?_) (by omega) ⟨rfl, rfl, t⟩
  · obtain ⟨rfl, rfl, t1⟩ := hP
    obtain ⟨hwe, hw2, -, -, hl, h4, -, hz⟩ := hc_at c t1
    obtain ⟨-, -, tR, tS, ⟨-, -, w8, -, -, -, -, -, -, wo, -, wu⟩, -, -⟩ := id t1
    have j8 : J1 207 7 = nn na := tS.2.1.trans w8
    have hi2 : i < 18 := by omega
    have g1 : nn i < nn na := (nn_lt (by omega) (by omega)).mpr hi
    have i1 : inR (nn i) 18 = true := inR_nn hi2 (by omega)
    have u1 : (nn i).toNatClampNeg = i := nn_nat (by omega)
    have sR := isOut_R (J := J1) hi2
    rw [tR.2.2.2.2.2.2.2.2.2.2.1 i hi2] at sR
    unfold B_Hours_earn_13 B_R_goesBy_137
    simp only [ok_bn, ok_rd, ok_ld, ok_ite, ok_rt, hwe, w8, j8, if_pos g1, i1, u1, true_and, nn_s]
    rcases wo i hi2 with q0 | q0
    · rw [q0, if_neg (by decide)] at sR
      simp only [q0, ok_eq sR, if_true]
      exact sd_l.mpr ⟨rfl, rfl, t1⟩
    · rw [q0, if_pos rfl] at sR
      obtain ⟨p, s0, hp, hp6, -, wp, -, jp, -⟩ := who_AR t1 hi
      obtain ⟨q, hq, hq2⟩ := wu p hp6
      have b17 : J1 208 (17 + p) = nn q := (tR.2.2.2.2.2.2.2.2.1 p hp6).trans hq2
      have a17 : (17 : Int32) + nn p = nn (17 + p) := nn_add 17 p
      have i17 : inR (nn (17 + p)) 95 = true := inR_nn (by omega) (by omega)
      have t17 : (nn (17 + p)).toNatClampNeg = 17 + p := nn_nat (by omega)
      have z4 : inR (4 : Int32) 95 = true := by decide
      have y4 : (4 : Int32).toNatClampNeg = 4 := by decide
      obtain ⟨_, I2, e1, v, J2, e2, rfl, ⟨g, hg, rfl⟩, f1, f2⟩ := gain_AR hw2 t1 hl h4 hi
      have T2 := tt_same hw2 t1 f1 f2
      have hq3 : I2 (w + 3) p = nn q := by rw [f1 (w + 3) (by omega)]; exact hq2
      have eg := give_A (I := I2) (v := g) hp6 hq3 hq (by omega)
      have T3 := tt_3 (q := min (q + g) 9999) hw2 hp6 (by omega) T2
      have n1 : (bup I2 (w + 3) (upd (I2 (w + 3)) p (nn (min (q + g) 9999)))) (w + 3) p = nn (min (q + g) 9999) := by rw [bup_eq, upd_eq]
      have n2 : (bup J2 208 (upd (J2 208) (17 + p) (nn (min (q + g) 9999)))) 208 (17 + p) = nn (min (q + g) 9999) := by rw [bup_eq, upd_eq]
      have ls1 : F_R_lesser 9999 (nn (q + g)) = rt (nn (min (q + g) 9999)) := ls_nn (b := 9999) (by omega) (by omega)
      have qb : min (q + g) 9999 ≤ 9999 := by omega
      generalize min (q + g) 9999 = r at *
      generalize bup I2 (w + 3) (upd (I2 (w + 3)) p (nn r)) = I3 at *
      generalize hJ3 : bup J2 208 (upd (J2 208) (17 + p) (nn r)) = J3 at *
      obtain ⟨hwe3, -, -, -, hl3, h43, -, -⟩ := hc_at c T3
      obtain ⟨_, I4, e3, v4, J4, e4, rfl, ⟨s, hs, rfl⟩, f3, f4⟩ := cost_AR hw2 T3 hl3 h43 hi
      have T4 := tt_same hw2 T3 f3 f4
      have n3 : I4 (w + 3) p = nn r := by rw [f3 (w + 3) (by omega)]; exact n1
      have n4 : J4 208 (17 + p) = nn r := by rw [f4 208 (by decide) (by decide)]; exact n2
      have ec := charge_A (I := I4) (v := s) hp6 n3 qb (by omega)
      have T5 := tt_3 (q := r - min s r) hw2 hp6 (by omega) T4
      have T6 := tt_f1 (x := I4 w 1 + nn (s - min s r)) hw2 T5
      have wne : ∀ g, (bup I4 (w + 3) g) w = I4 w := fun g => bup_ne _ _ (by omega)
      rw [wne, bup_eq, bup_bup] at T6
      have ls2 : F_R_lesser (nn s) (nn r) = rt (nn (min s r)) := by rw [le_R, min_nn (by omega) (by omega)]
      have sb : nn r - nn (min s r) = nn (r - min s r) := nn_sub (by omega)
      have x4 : J4 208 4 = I4 w 1 := T4.2.2.1.2.2.2.2.1
      have u4 : ∀ g, (upd (J4 208) (17 + p) g) 4 = I4 w 1 := fun g => by rw [upd_ne _ _ (by omega)]; exact x4
      have sm : (I4 w 1 + nn s) - nn (min s r) = I4 w 1 + nn (s - min s r) := by
        rw [← nn_sub (show min s r ≤ s by omega), Int32.sub_eq_add_neg, Int32.sub_eq_add_neg, Int32.add_assoc]
      unfold F_R_livesOn
      simp (decide := true) only [q0, ok_eq sR, if_false, ok_bn, ok_rd, ok_ld, ok_sr, ok_rt, wp, jp, i1, u1, a17, i17, t17, b17, ok_eq e1, ok_eq e2, ok_eq eg, nn_add, ls1, hJ3, ok_eq e3, ok_eq e4, ok_eq ec, n4, ls2, sb, bup_eq, bup_bup, z4, y4, u4, sm, true_and]
      exact sd_l.mpr ⟨rfl, rfl, T6⟩
  · obtain ⟨rfl, rfl, t1⟩ := hP
    obtain ⟨hwe, hw2, -, -, -, -, -, -⟩ := hc_at c t1
    obtain ⟨-, -, tR, tS, ⟨-, -, w8, -⟩, -, -⟩ := id t1
    have j8 : J1 207 7 = nn na := tS.2.1.trans w8
    have g1 : ¬ nn na < nn na := fun q => by have := (nn_lt (by omega) (by omega)).mp q; omega
    unfold B_Hours_earn_13 B_R_goesBy_137
    simp only [ok_bn, ok_rd, ok_ite, ok_rt, hwe, w8, j8, if_neg g1]
    exact sd_r.mpr t1
end SC40
