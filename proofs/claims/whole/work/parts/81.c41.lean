/-! an hour, and hours -/
section SC41
theorem upd_upd {f : Nat → Int32} {k : Nat} {a b : Int32} : upd (upd f k a) k b = upd f k b := by
  funext j
  by_cases e : j = k
  · subst e; rw [upd_eq, upd_eq]
  · rw [upd_ne _ _ e, upd_ne _ _ e, upd_ne _ _ e]
theorem h_strike {h w np na : Nat} {z e : Int32} {I0 J0 I J : MI} (c : HC h w np na z I0 J0) (t : TT w np na z e I0 J0 I J) : Ok (F_Hours_strikeOff h) I fun _ I1 => Ok F_R_strikesOff J fun u J1 => TT w np na z (e + u) I0 J0 I1 J1 := by
  obtain ⟨-, -, -, -, ⟨-, -, -, hna, -⟩, -, -⟩ := id t
  unfold F_Hours_strikeOff K_Hours_strikeOff_2 F_R_strikesOff K_R_strikesOff_4
  refine lpN na (fun i x I1 y J1 => x = nn i ∧ ∃ k, y = (k, nn i) ∧ TT w np na z (e + k) I0 J0 I1 J1) (fun i x I1 y J1 hi hP => ?_) (fun x I1 y J1 hP => ?_) (by omega) ⟨rfl, 0, rfl, by rw [Int32.add_zero]; exact t⟩
  · obtain ⟨rfl, k, rfl, t1⟩ := hP
    have c1 := c
    obtain ⟨hwe, hw2, -, -, -, -, -, -⟩ := hc_at c t1
    obtain ⟨-, -, tR, tS, ⟨-, -, w8, -, -, -, -, -, -, -, ws, -⟩, -, -⟩ := id t1
    obtain ⟨-, -, -, -, -, -, -, -, -, -, -, x59, x77⟩ := id tR
    have j8 : J1 207 7 = nn na := tS.2.1.trans w8
    have hi2 : i < 18 := by omega
    have g1 : nn i < nn na := (nn_lt (by omega) (by omega)).mpr hi
    have i1 : inR (nn i) 18 = true := inR_nn hi2 (by omega)
    have u1 : (nn i).toNatClampNeg = i := nn_nat (by omega)
    have sR := isStruck_R (J := J1) hi2
    rw [x77 i hi2] at sR
    have a59 : (59 : Int32) + nn i = nn (59 + i) := nn_add 59 i
    have i59 : inR (nn (59 + i)) 95 = true := inR_nn (by omega) (by omega)
    have t59 : (nn (59 + i)).toNatClampNeg = 59 + i := nn_nat (by omega)
    have a77 : (77 : Int32) + nn i = nn (77 + i) := nn_add 77 i
    have i77 : inR (nn (77 + i)) 95 = true := inR_nn (by omega) (by omega)
    have t77 : (nn (77 + i)).toNatClampNeg = 77 + i := nn_nat (by omega)
    have z6 : inR (6 : Int32) 95 = true := by decide
    have y6 : (6 : Int32).toNatClampNeg = 6 := by decide
    have v59 := x59 i hi2
    unfold B_Hours_strikeOff_2 B_R_strikesOff_4
    simp only [ok_bn, ok_rd, ok_ld, ok_ite, ok_rt, hwe, w8, j8, if_pos g1, i1, u1, a59, i59, t59, v59, true_and, nn_s]
    rcases ws i hi2 with q0 | q0
    · rw [q0, if_neg (by decide)] at sR
      by_cases q1 : 50 < I1 (w + 9) i
      · have T1 := tt_10 hw2 hi2 (Or.inr rfl) t1
        obtain ⟨_, I2, e1, _, J2, e2, T2⟩ := h_home hw2 T1 hi
        have T3 := tt_f3 (x := I2 w 3 + 1) hw2 T2
        have h3 : I2 w 3 = e + k := T2.2.2.2.2.2.2
        have x6 : J2 208 6 = I2 w 3 := T2.2.2.1.2.2.2.2.2.2.1
        have ek : I2 w 3 + 1 = e + (k + 1) := by rw [h3, Int32.add_assoc]
        rw [ek] at T3
        have k59 : (bup J2 208 (upd (J2 208) 6 (e + (k + 1)))) 208 (59 + i) = (bup I2 w (upd (I2 w) 3 (e + (k + 1)))) (w + 9) i := T3.2.2.1.2.2.2.2.2.2.2.2.2.2.2.1 i hi2
        obtain ⟨_, I4, e3, _, J4, e4, tt⟩ := h_note (a := 3) (b := nn i) (d := (bup I2 w (upd (I2 w) 3 (e + (k + 1)))) (w + 9) i) c T3
        rw [bup_eq] at k59
        simp (decide := true) only [q0, ok_eq sR, if_true, v59, if_pos q1, ok_ite, ok_bn, ok_rd, ok_wr, ok_ld, ok_sr, ok_rt, i1, u1, a77, i77, t77, ok_eq e1, ok_eq e2, z6, y6, x6, ek, bup_eq, a59, i59, t59, k59, ok_eq e3, ok_eq e4, true_and]
        exact sd_l.mpr ⟨rfl, k + 1, rfl, tt⟩
      · simp only [q0, ok_eq sR, if_true, ok_bn, ok_ld, a59, i59, t59, v59, ok_ite, if_neg q1, ok_rt, true_and]
        exact sd_l.mpr ⟨rfl, k, rfl, t1⟩
    · rw [q0, if_pos rfl] at sR
      simp (decide := true) only [q0, ok_eq sR, if_false, ok_rt]
      exact sd_l.mpr ⟨rfl, k, rfl, t1⟩
  · obtain ⟨rfl, k, rfl, t1⟩ := hP
    obtain ⟨hwe, hw2, -, -, -, -, -, -⟩ := hc_at c t1
    obtain ⟨-, -, tR, tS, ⟨-, -, w8, -⟩, -, -⟩ := id t1
    have j8 : J1 207 7 = nn na := tS.2.1.trans w8
    have g1 : ¬ nn na < nn na := fun q => by have := (nn_lt (by omega) (by omega)).mp q; omega
    unfold B_Hours_strikeOff_2 B_R_strikesOff_4
    simp only [ok_bn, ok_rd, ok_ite, ok_rt, hwe, w8, j8, if_neg g1]
    exact sd_r.mpr t1
theorem h24 : ∀ g, g < 24 → (nn g + 1) - (nn g + 1) / 24 * 24 = nn ((g + 1) % 24) := by decide
theorem h_fade {h w np na : Nat} {z e v : Int32} {I0 J0 I J : MI} (c : HC h w np na z I0 J0) (t : TT w np na z e I0 J0 I J) : Ok (K_Hours_turn_49 h 0) I fun _ I1 => Ok (K_R_goesBy_213 v 0) J fun u J1 => u = v ∧ TT w np na z e I0 J0 I1 J1 := by
  obtain ⟨-, -, -, -, ⟨-, -, -, hna, -⟩, -, -⟩ := id t
  unfold K_Hours_turn_49 K_R_goesBy_213
  refine lpN na (fun i x I1 y J1 => x = nn i ∧ y = nn i ∧ TT w np na z e I0 J0 I1 J1) (fun i x I1 y J1 hi hP => ?_) (fun x I1 y J1 hP => ?_) (by omega) ⟨rfl, rfl, t⟩
  · obtain ⟨rfl, rfl, t1⟩ := hP
    obtain ⟨hwe, hw2, -, -, -, -, -, -⟩ := hc_at c t1
    obtain ⟨-, -, tR, tS, ⟨-, -, w8, -⟩, -, -⟩ := id t1
    have j8 : J1 207 7 = nn na := tS.2.1.trans w8
    have hi2 : i < 18 := by omega
    have g1 : nn i < nn na := (nn_lt (by omega) (by omega)).mpr hi
    have i1 : inR (nn i) 18 = true := inR_nn hi2 (by omega)
    have u1 : (nn i).toNatClampNeg = i := nn_nat (by omega)
    have a59 : (59 : Int32) + nn i = nn (59 + i) := nn_add 59 i
    have i59 : inR (nn (59 + i)) 95 = true := inR_nn (by omega) (by omega)
    have t59 : (nn (59 + i)).toNatClampNeg = 59 + i := nn_nat (by omega)
    have v59 : J1 208 (59 + i) = I1 (w + 9) i := tR.2.2.2.2.2.2.2.2.2.2.2.1 i hi2
    unfold B_Hours_turn_49 B_R_goesBy_213
    simp only [ok_bn, ok_rd, ok_ld, ok_sr, ok_ite, ok_rt, hwe, w8, j8, if_pos g1, i1, u1, a59, i59, t59, v59, gr_R, max0, true_and, nn_s]
    exact sd_l.mpr ⟨rfl, rfl, tt_9 hw2 hi2 t1⟩
  · obtain ⟨rfl, rfl, t1⟩ := hP
    obtain ⟨hwe, hw2, -, -, -, -, -, -⟩ := hc_at c t1
    obtain ⟨-, -, tR, tS, ⟨-, -, w8, -⟩, -, -⟩ := id t1
    have j8 : J1 207 7 = nn na := tS.2.1.trans w8
    have g1 : ¬ nn na < nn na := fun q => by have := (nn_lt (by omega) (by omega)).mp q; omega
    unfold B_Hours_turn_49 B_R_goesBy_213
    simp only [ok_bn, ok_rd, ok_ite, ok_rt, hwe, w8, j8, if_neg g1]
    exact sd_r.mpr ⟨rfl, t1⟩
theorem h_turn {h w np na : Nat} {z e : Int32} {I0 J0 I J : MI} (c : HC h w np na z I0 J0) (t : TT w np na z e I0 J0 I J) : Ok (bn (F_Hours_strikeOff h) fun _ => F_Hours_turn h) I fun _ I1 => Ok K_R_goesBy_164 J fun u J1 => TT w np na z (e + u) I0 J0 I1 J1 := by
  unfold K_R_goesBy_164
  refine bb (h_strike c t) fun _ I1 u J1 t1 => ?_
  obtain ⟨hwe, hw2, -, -, -, -, -, -⟩ := hc_at c t1
  obtain ⟨-, -, tR, tS, ⟨-, -, -, -, ⟨g, hg, w4⟩, -⟩, -, -⟩ := id t1
  obtain ⟨x0, x1, -⟩ := id tR
  have z0 : inR (0 : Int32) 95 = true := by decide
  have y0 : (0 : Int32).toNatClampNeg = 0 := by decide
  have z1 : inR (1 : Int32) 95 = true := by decide
  have y1 : (1 : Int32).toNatClampNeg = 1 := by decide
  have dv : ∀ {β : Type} (m : M β), dvI (24 : Int32) m = m := fun m => dvI_ne m (by decide)
  have x1' : J1 208 1 = nn g := x1.trans w4
  have e24 := h24 g hg
  unfold F_Hours_turn
  by_cases h23 : g = 23
  · subst h23
    have n1 : ¬ nn 23 + 1 < 24 := by decide
    have n2 : ¬ (0 : Int32) < nn ((23 + 1) % 24) := by decide
    have T := tt_f5 (x := I1 w 5 + 1) hw2 (tt_f4 (q := (23 + 1) % 24) hw2 (by decide) t1)
    obtain ⟨_, I2, e1, v, J2, e2, rfl, tt⟩ := h_fade (v := u) c T
    simp (decide := true) only [bup_eq, bup_bup, upd_ne] at e1 e2
    have zz : nn ((23 + 1) % 24) = (0 : Int32) := by decide
    have e24' := e24
    rw [nn_s] at e24'
    rw [zz] at e1
    simp (decide := true) only [ok_bn, ok_rd, ok_wr, ok_ld, ok_sr, ok_ite, ok_rt, hwe, w4, x1', z0, y0, z1, y1, dv, e24', x0, bup_eq, bup_bup, upd_eq, upd_ne, upd_upd, if_neg n1, if_neg n2, if_true, if_false, nn_s, ok_eq e1, ok_eq e2, true_and]
    exact tt
  · have n1 : nn (g + 1) < 24 := (nn_lt (k := 24) (by omega) (by omega)).mpr (by omega)
    have m24 : (g + 1) % 24 = g + 1 := by omega
    rw [m24] at e24
    have n2 : (0 : Int32) < nn (g + 1) := (nn_lt (j := 0) (by omega) (by omega)).mpr (by omega)
    have e24' := e24
    rw [nn_s] at e24'
    have T := tt_f4 (q := g + 1) hw2 (by omega) t1
    simp (decide := true) only [ok_bn, ok_rd, ok_wr, ok_ld, ok_sr, ok_ite, ok_rt, hwe, w4, x1', z0, y0, z1, y1, dv, nn_s, e24', bup_eq, upd_eq, if_pos n1, if_pos n2, true_and]
    exact T
theorem h_tail {h w np na : Nat} {z e : Int32} {I0 J0 I J : MI} (c : HC h w np na z I0 J0) (t : TT w np na z e I0 J0 I J) : Ok (bn (F_Hours_beSeen h) fun _ => bn (F_Hours_earn h) fun _ => bn (F_Hours_strikeOff h) fun _ => F_Hours_turn h) I fun _ I1 => Ok K_R_goesBy_106 J fun u J1 => TT w np na z (e + u) I0 J0 I1 J1 := by
  unfold K_R_goesBy_106 K_R_goesBy_108 K_R_goesBy_135 K_R_goesBy_137
  refine bb (h_seen c t) fun _ I1 _ J1 t1 => ?_
  refine bb (h_earn c t1) fun _ I2 _ J2 t2 => ?_
  exact h_turn c t2
theorem h_pass {h w np na : Nat} {z e : Int32} {I0 J0 I J : MI} (c : HC h w np na z I0 J0) (t : TT w np na z e I0 J0 I J) : Ok (F_Hours_pass h) I fun _ I1 => Ok F_R_goesBy J fun u J1 => TT w np na z (e + u) I0 J0 I1 J1 := by
  unfold F_Hours_pass F_R_goesBy K_R_goesBy_2 K_R_goesBy_56 K_R_goesBy_58 K_R_goesBy_85 K_R_goesBy_87
  refine bb (h_diary c t) fun _ I1 _ J1 t1 => ?_
  refine bb (h_share c t1) fun _ I2 _ J2 t2 => ?_
  obtain ⟨-, -, -, -, ⟨-, hnp, -⟩, -, -⟩ := id t2
  unfold K_Hours_pass_10
  have key := lpN (b1 := B_Hours_pass_10 h) (b2 := B_R_goesBy_87) (Q := fun _ I1 _ J1 => Ok K_R_goesBy_106 J1 fun u J2 => TT w np na z (e + u) I0 J0 I1 J2) np (fun i x I1 y J1 => x = nn i ∧ y = nn i ∧ TT w np na z e I0 J0 I1 J1) (fun i x I1 y J1 hi hP => by
    obtain ⟨rfl, rfl, t3⟩ := hP
    obtain ⟨hwe, hw2, -, -, -, -, -, -⟩ := hc_at c t3
    obtain ⟨-, -, tR, tS, ⟨w7, -⟩, -, -⟩ := id t3
    have j7 : J1 207 6 = nn np := tS.1.trans w7
    have g1 : nn i < nn np := (nn_lt (by omega) (by omega)).mpr hi
    obtain ⟨_, I4, e1, _, J4, e2, tt⟩ := h_cous c t3 hi
    unfold B_Hours_pass_10 B_R_goesBy_87
    simp only [ok_bn, ok_rd, ok_ite, ok_rt, hwe, w7, j7, if_pos g1, ok_eq e1, ok_eq e2, nn_s]
    exact sd_l.mpr ⟨rfl, rfl, tt⟩) (fun x I1 y J1 hP => by
    obtain ⟨rfl, rfl, t3⟩ := hP
    obtain ⟨hwe, hw2, -, -, -, -, -, -⟩ := hc_at c t3
    obtain ⟨-, -, tR, tS, ⟨w7, -⟩, -, -⟩ := id t3
    have j7 : J1 207 6 = nn np := tS.1.trans w7
    have g1 : ¬ nn np < nn np := fun q => by have := (nn_lt (by omega) (by omega)).mp q; omega
    have tl := h_tail c t3
    simp only [ok_bn] at tl
    unfold B_Hours_pass_10 B_R_goesBy_87
    simp only [ok_bn, ok_rd, ok_ite, ok_rt, hwe, w7, j7, if_neg g1, sd_r]
    exact tl) (by omega) (x := 0) (I := I2) (y := 0) (J := J2) ⟨rfl, rfl, t2⟩
  refine ok_mono key fun _ I3 q => ?_
  obtain ⟨_, J3, e2, q2⟩ := q
  rw [ok_bn, ok_eq e2]
  exact q2
theorem hc_2 {I J : MI} {np na : Nat} (hr : Rl I J) (hb : bW I 2 np na) : HC 110 2 np na 0 I J := by
  obtain ⟨⟨-, -, k3, k4, k5, -⟩, -, -, -, kc⟩ := hr
  exact ⟨Or.inl ⟨rfl, rfl, rfl⟩, kc.2.1, kc.2.2.2.2.2, k3, k4, k5, (con_at kc (t := 17) (w := 4) (r := 16) (by decide)).1, (con_at kc (t := 21) (w := 4) (r := 16) (by decide)).1, (con_at kc (t := 23) (w := 5) (r := 16) (by decide)).1, hb.1, hb.2.2.1⟩
theorem h_hour {I J : MI} (hr : Rl I J) : Ok (bn F_A_keepPast fun _ => F_Hours_pass 110) I fun _ I1 => Ok (bn F_R_keepsAhead fun _ => F_R_goesBy) J fun u J1 => Rl I1 J1 ∧ I1 2 3 = I 2 3 + u := by
  refine bb (h_keep hr) fun _ I1 _ J1 q => ?_
  obtain ⟨rl1, f1, -, -⟩ := q
  obtain ⟨⟨k1, -⟩, -⟩ := id rl1
  obtain ⟨-, -, np, na, hb⟩ := k1
  refine ok_mono (h_pass (hc_2 rl1 hb) (tt_0 rl1 hb)) fun _ I2 q => ok_mono q fun u J2 tt => ?_
  refine ⟨rl_tt rl1 tt, ?_⟩
  rw [tt.2.2.2.2.2.2, f1 2 (by decide) (by decide)]
theorem c_hours (x : Int32) : Call (F_A_hours x) (F_R_hours x) := by
  refine call_of fun I J hr => ?_
  have told := rl_told hr
  unfold F_A_hours F_R_hours K_A_hours_48 K_R_hours_46
  simp only [ok_bn, ok_wr]
  generalize bup J 207 (upd (J 207) 0 0) = K at *
  rcases rng (v := x) 1 60 (by decide) (by decide) with ⟨n, hn, hn2, rfl⟩ | out
  · have q1 := rng_in (a := 1) (b := 60) (k := n) (by decide) hn hn2
    have wA : F_A_within (nn n) 1 60 = rt 1 := wi_in q1.1 q1.2
    have wR : F_R_isIn (nn n) 1 60 = rt 1 := ri_in q1.1 q1.2
    obtain ⟨⟨⟨⟨x0, x1, -⟩, -⟩, -⟩, -⟩ := id told
    have z0 : inR (0 : Int32) 95 = true := by decide
    have y0 : (0 : Int32).toNatClampNeg = 0 := by decide
    have z1 : inR (1 : Int32) 95 = true := by decide
    have y1 : (1 : Int32).toNatClampNeg = 1 := by decide
    have dv : ∀ {β : Type} (m : M β), dvI (24 : Int32) m = m := fun m => dvI_ne m (by decide)
    have x0' : K 208 0 = I 2 5 := x0
    have x1' : K 208 1 = I 2 4 := x1
    simp (decide := true) only [wA, wR, ok_bn, ok_rt, ok_ite, ok_rd, ok_ld, z0, y0, z1, y1, x0', x1', dv, if_false, true_and]
    by_cases hq : 990 < I 2 5 + (I 2 4 + nn n) / 24
    · simp only [if_pos hq, true_and]
      exact told
    · simp only [if_neg hq]
      refine ok_mono (lpN n (fun i x I1 y J1 => x = nn i ∧ ∃ s, y = (s, nn i) ∧ I1 2 3 = I 2 3 + s ∧ Rl I1 J1) (Q := fun a I1 b J1 => a = b ∧ Rl I1 J1) (fun i x I1 y J1 hi hP => ?_) (fun x I1 y J1 hP => ?_) (by omega) ⟨rfl, 0, rfl, (Int32.add_zero _).symm, told⟩) fun a I1 q => ok_mono q fun b J1 q2 => ⟨q2.1.symm, q2.2⟩
      · obtain ⟨rfl, s, rfl, hs, rl1⟩ := hP
        have g1 : nn i < nn n := (nn_lt (by omega) (by omega)).mpr hi
        have hh := h_hour rl1
        simp only [ok_bn] at hh
        unfold B_A_hours_48 B_R_hours_46
        simp only [ok_bn, ok_ite, if_pos g1, ok_rt, nn_s]
        refine ok_mono hh fun _ I2 h1 => ok_mono h1 fun _ I3 h2 => ?_
        refine ok_mono h2 fun _ J2 h3 => ok_mono h3 fun u J3 h4 => ?_
        exact sd_l.mpr ⟨rfl, s + u, rfl, by rw [h4.2, hs, Int32.add_assoc], h4.1⟩
      · obtain ⟨rfl, s, rfl, hs, rl1⟩ := hP
        have g1 : ¬ nn n < nn n := fun q => by have := (nn_lt (by omega) (by omega)).mp q; omega
        have es : I 2 3 + s - I 2 3 = s := by rw [Int32.add_comm, Int32.add_sub_cancel]
        unfold B_A_hours_48 B_R_hours_46
        simp only [ok_bn, ok_rd, ok_ite, if_neg g1, ok_rt, hs, es]
        exact sd_r.mpr ⟨rfl, rl1⟩
  · have wA : F_A_within x 1 60 = rt 0 := wi_out out
    have wR : F_R_isIn x 1 60 = rt 0 := ri_out out
    simp (decide := true) only [wA, wR, ok_bn, ok_rt, ok_ite, if_true, true_and]
    exact told
end SC41
