/-! text: the call -/
section TC991
theorem A03 {x : Int32} (h1 : ¬ x = 1) (h2 : ¬ x = 2) : F_A_text x = F_Reader_read x := by
  unfold F_A_text
  have e : (fun v1 : Int32 => (if x = (1 : Int32) then K_A_text_19 v1 else (if x = (2 : Int32) then K_A_text_19 v1 else (if v1 = (-1 : Int32) then rt v1 else (if (0 : Int32) = 0 then rt v1 else bn (F_A_forget) fun _ => rt v1))))) = fun v1 => rt v1 := by
    funext v1
    rw [if_neg h1, if_neg h2, if_pos (show (0 : Int32) = 0 from rfl), ite_self]
  rw [e, bn_rtR]
theorem A12 {x : Int32} (h : x = 1 ∨ x = 2) : F_A_text x = bn (F_Reader_read x) K_A_text_19 := by
  unfold F_A_text
  congr 1
  funext v1
  rcases h with e | e
  · rw [if_pos e]
  · rw [e, if_neg (by decide), if_pos rfl]
theorem k19_m {K : MI} : K_A_text_19 (-1) K = some (-1, K) := rfl
theorem nn_mo {n : Nat} (h : n ≤ 16) : ¬ nn n = -1 := by
  intro z
  have q := congrArg Int32.toInt z
  rw [nn_toInt (by omega)] at q
  have : ((-1 : Int32)).toInt = -1 := by decide
  omega
theorem k19_n {K : MI} {n : Nat} (h : n ≤ 16) : K_A_text_19 (nn n) K = some (nn n, bup K 0 (upd (K 0) 9 0)) := by
  unfold K_A_text_19
  rw [if_neg (nn_mo h), if_neg one_ne]
  rfl
theorem rdT_0 : rdT 0 = F_R_readLaw := by
  unfold rdT
  rw [if_neg (by decide), if_neg (by decide), if_neg (by decide), bn_rtR]
theorem rdT_1 : rdT 1 = F_R_readShares := by
  unfold rdT
  rw [if_pos rfl, bn_rtR]
theorem rdT_2 : rdT 2 = F_R_readDiary := by
  unfold rdT
  rw [if_neg (by decide), if_pos rfl, bn_rtR]
theorem rdT_3 : rdT 3 = F_R_readStreets := by
  unfold rdT
  rw [if_neg (by decide), if_neg (by decide), if_pos rfl, bn_rtR]
theorem tab_set {I : MI} {t : Nat} (h0 : ∀ k, kpI t k = true ∨ k = 3) : ∃ K, bup I t (upd (I t) 3 0) = K ∧ (∀ a k, kpI a k = true → (kpI t 3 = false → K a k = I a k)) ∧ K t 3 = nn 0 := by
  refine ⟨_, rfl, fun a k h h3 => ?_, by rw [bup_eq, upd_eq]; rfl⟩
  by_cases e : a = t
  · subst e
    rw [bup_eq, upd_ne _ _ (fun z => by rw [z, h3] at h; cases h)]
  · rw [bup_ne _ _ e]
theorem cl_O {x : Int32} {t : Nat} (hx : ¬ x = 0) (e : F_Texts_table 94 x = rt t) (ht : kpI t 3 = false) (h93 : (93 : Nat) ≠ t) : ∀ I2 : MI, ∃ I3, F_Texts_clear 94 x I2 = some ((), I3) ∧ (∀ a k, kpI a k = true → I3 a k = I2 a k) ∧ I3 93 = I2 93 ∧ I3 t 3 = nn 0 := by
  intro I2
  refine ⟨bup I2 t (upd (I2 t) 3 0), ?_, fun a k h => ?_, bup_ne _ _ h93, by rw [bup_eq, upd_eq]; rfl⟩
  · unfold F_Texts_clear
    rw [if_neg hx, e, bn_rt, bn_of wipe_ok]
    rfl
  · by_cases ea : a = t
    · subst ea
      rw [bup_eq, upd_ne _ _ (fun z => by rw [z, ht] at h; cases h)]
    · rw [bup_ne _ _ ea]
theorem cl_0 : ∀ I2 : MI, ∃ I3, F_Texts_clear 94 0 I2 = some ((), I3) ∧ (∀ a k, kpI a k = true → I3 a k = I2 a k) ∧ I3 93 = I2 93 ∧ (I3 96 3 = nn 0 ∧ I3 95 1 = nn 0) := by
  intro I2
  obtain ⟨K, eK⟩ : ∃ K, K = bup I2 96 (upd (I2 96) 3 0) := ⟨_, rfl⟩
  refine ⟨bup K 95 (upd (K 95) 1 0), ?_, fun a k h => ?_, ?_, ?_, ?_⟩
  · unfold F_Texts_clear
    rw [if_pos rfl]
    unfold F_Law_clear
    rw [bn_bn, bn_of (show F_Table_wipe (94 + 1 + 1) I2 = some (0, K) by rw [eK]; exact wipe_ok), bn_bn, bn_wr]
    rfl
  · have f1 : FI I2 K := by rw [eK]; exact fi_set (fun _ _ _ => rfl) rfl
    exact fi_set f1 rfl a k h
  · rw [bup_ne _ _ (by decide), eK, bup_ne _ _ (by decide)]
  · rw [bup_ne _ _ (by decide), eK, bup_eq, upd_eq]; rfl
  · rw [bup_eq, upd_eq]; rfl
theorem text_out {I J : MI} (hr : Rl I J) {x : Int32} (hx : x < 0 ∨ 3 < x) : ∃ K L, F_A_text x I = some (-1, K) ∧ F_R_text x J = some (-1, L) ∧ Rl K L := by
  obtain ⟨-, ⟨⟨n, hn, i93, j14⟩, -, -, -⟩, -, -, -⟩ := id hr
  obtain ⟨I1, eA, a1, a2, a3, a4⟩ := head_A i93
  obtain ⟨Jh, eR, r1, r2, r3, r4, r5, r6, r7⟩ := head_R J
  have n1 : ¬ x = 1 := fun e => by rw [e] at hx; exact absurd hx (by decide)
  have n2 : ¬ x = 2 := fun e => by rw [e] at hx; exact absurd hx (by decide)
  refine ⟨I1, bup Jh 207 (upd (Jh 207) 14 0), ?_, ?_, rl_mid hr (fun a k h => by rw [a1 a (kc_no h).1]) (fun a k h => ?_) a2 (by rw [bup_eq, upd_eq]) ?_ ?_⟩
  · rw [A03 n1 n2, eA x, wi_out hx, bn_rt, if_pos rfl]; rfl
  · rw [eR x, ri_out hx, bn_rt, if_pos rfl]
    unfold K_R_text_69
    rw [bn_wr, if_pos rfl]; rfl
  · by_cases e : a = 207
    · subst e
      have h2 : (!(decide (k = 0 ∨ k = 14 ∨ k = 15 ∨ k = 16 ∨ k = 17 ∨ k = 18 ∨ k = 27 ∨ k = 28 ∨ k = 29 ∨ k = 31 ∨ k = 32 ∨ k = 33 ∨ k = 34 ∨ k = 35))) = true := h
      rw [Bool.not_eq_true', decide_eq_false_iff_not] at h2
      rw [bup_eq, upd_ne _ _ (by omega), r2 k (by omega) (by omega) (by omega) (by omega) (by omega) (by omega)]
    · rw [bup_ne _ _ e, r1 a e]
  · rw [bup_eq, upd_ne _ _ (by decide), r3, a3]
  · rw [bup_eq, upd_ne _ _ (by decide), r4, a4]
theorem text_0 {I J : MI} (hr : Rl I J) : ∃ v K L, F_A_text 0 I = some (v, K) ∧ F_R_text 0 J = some (v, L) ∧ Rl K L := by
  obtain ⟨-, -, -, -, hc⟩ := id hr
  obtain ⟨X, I3, J1, J2, hX, e3, e1, hL0, ⟨p1, p2⟩, q28, q29, eA, eR, hIf, hJf, h0, h34, h35, h27⟩ := txt_pre hr (x := 0) (by decide) (by decide) cl_0
  have w0 : I3 96 0 = nn 4 := by rw [hIf 96 0 rfl]; exact (con_at hc (t := 96) (w := 4) (r := 16) (by decide)).1
  have w1 : I3 96 1 = nn 16 := by rw [hIf 96 1 rfl]; exact (con_at hc (t := 96) (w := 4) (r := 16) (by decide)).2
  rw [A03 (by decide) (by decide), eA, eR, rdT_0, bod_0]
  rcases go_law hX (by rw [e3]; exact w0) (by rw [e3]; exact w1) p1 p2 q28 q29 hL0 with ⟨I4, J4, s1, s2, hE⟩ | ⟨n, c, I4, J4, hS, s1, s2⟩
  · obtain ⟨L, l1, l2⟩ := txt_bad hr e3 e1 hIf hJf h0 hE 0
    exact ⟨-1, I4, L, s1, by rw [bn_of s2]; exact l1, l2⟩
  · obtain ⟨es, hes, hL⟩ := hS
    obtain ⟨L, l1, l2⟩ := txt_good hr e3 e1 hIf hJf h0 h34 h35 hL
    obtain ⟨d0, d1, d2, d3, d4⟩ := hL.2.2.2
    have f4 : FI I3 I4 := by rw [← e3]; exact hL.2.1.2.2.2
    have g4 : FJ J1 J4 := by rw [← e1]; exact hL.2.2.1.2.2.2.2
    have y0 : I4 17 0 = nn 4 := by rw [f4 17 0 rfl, hIf 17 0 rfl]; exact (con_at hc (t := 17) (w := 4) (r := 16) (by decide)).1
    obtain ⟨K, t1, t2, t3, t4, t5, t6⟩ := takes_A d2 y0 d1 d0.2.1
    have lo : ∀ a, a ≠ 207 → L a = J4 a := fun a ha => by rw [l1, bup_ne _ _ ha]
    have l27 : L 207 27 = 0 := by rw [l1, bup_eq, upd_ne _ _ (by decide), g4 207 27 rfl]; exact h27
    have l28 : L 207 28 = nn es.length := by rw [l1, bup_eq, upd_ne _ _ (by decide)]; exact d0.2.2.1
    obtain ⟨u, Lf, v1, v2, v3, v4, v5, v6, v7, v8, v9⟩ := takes_R (J := L) d1 d0.1 l27 l28
    have hb : bLaw K 16 Lf := by
      refine law_new hL (by rw [t3, upd_eq]) t4 t5 t6 (by rw [v3, upd_eq]) ?_ ?_ ?_ ?_ ?_ ?_
      · rw [v4, lo 219 (by decide)]
      · rw [v5, lo 220 (by decide)]
      · rw [v6, lo 221 (by decide)]
      · rw [v7, lo 222 (by decide)]
      · rw [v8, lo 223 (by decide)]
      · rw [v9, lo 224 (by decide)]
    refine ⟨nn n, K, Lf, s1.trans t1, ?_, fin_law l2 t2 t3 v2 hb⟩
    rw [bn_of s2]
    unfold txtT K_R_text_69
    rw [if_neg (nn_mo d1), bn_wr, ← l1, if_neg (nn_mo d1), if_pos rfl, bn_of v1]
    rfl
theorem text_1 {I J : MI} (hr : Rl I J) : ∃ v K L, F_A_text 1 I = some (v, K) ∧ F_R_text 1 J = some (v, L) ∧ Rl K L := by
  obtain ⟨⟨kw, -⟩, -, -, -, hc⟩ := id hr
  obtain ⟨X, I3, J1, J2, hX, e3, e1, hL0, p1, q28, q29, eA, eR, hIf, hJf, h0, h34, h35, h27⟩ := txt_pre hr (x := 1) (by decide) (by decide) (cl_O (x := 1) (t := 100) (by decide) rfl rfl (by decide))
  have w0 : I3 100 0 = nn 4 := by rw [hIf 100 0 rfl]; exact (con_at hc (t := 100) (w := 4) (r := 16) (by decide)).1
  have w1 : I3 100 1 = nn 16 := by rw [hIf 100 1 rfl]; exact (con_at hc (t := 100) (w := 4) (r := 16) (by decide)).2
  have hna : J1 207 7 = I3 2 8 := by rw [hJf 207 7 rfl, hIf 2 8 rfl]; exact kw.2.1.2.1
  rw [A12 (Or.inl rfl), bn_cg eA, eR, rdT_1, bod_1]
  rcases go_sha hX (by rw [e3]; exact w0) (by rw [e3]; exact w1) (by rw [e3, e1]; exact hna) p1 hL0 with ⟨I4, J4, s1, s2, hE⟩ | ⟨n, c, I4, J4, hL, s1, s2⟩
  · obtain ⟨L, l1, l2⟩ := txt_bad hr e3 e1 hIf hJf h0 hE 1
    exact ⟨-1, I4, L, by rw [bn_of s1]; rfl, by rw [bn_of s2]; exact l1, l2⟩
  · obtain ⟨L, l1, l2⟩ := txt_good hr e3 e1 hIf hJf h0 h34 h35 hL
    obtain ⟨d1, d2, d3, d4⟩ := hL.2.2.2
    have f4 : FI I3 I4 := by rw [← e3]; exact hL.2.1.2.2.2
    have y0 : I4 21 0 = nn 4 := by rw [f4 21 0 rfl, hIf 21 0 rfl]; exact (con_at hc (t := 21) (w := 4) (r := 16) (by decide)).1
    obtain ⟨K, t1, t2, t3, t4⟩ := takO_A (I := I4) (x := 1) (t0 := 21) (t1 := 100) (n := n) (w := 4) (by decide) rfl rfl d2 y0 rfl (by show n * 4 ≤ 64; omega) (by omega) (by decide) (by decide)
    have lo : ∀ a, a ≠ 207 → L a = J4 a := fun a ha => by rw [l1, bup_ne _ _ ha]
    obtain ⟨u, Lf, v1, v2, v3, v4, v5, v6⟩ := takS_R (J := L) d1
    have hb : bSha K 21 Lf := sha_new hL (by rw [t3, upd_eq]) t4 v4 (by rw [v6, lo 226 (by decide)])
    refine ⟨nn n, bup K 0 (upd (K 0) 9 0), Lf, ?_, ?_, fin_sha l2 t2 t3 v2 v3 v5 hb⟩
    · rw [bn_of (s1.trans t1)]
      exact k19_n d1
    · rw [bn_of s2]
      unfold txtT K_R_text_69
      rw [if_neg (nn_mo d1), bn_wr, ← l1, if_neg (nn_mo d1), if_neg one_ne, bn_of v1]
      rfl
theorem text_2 {I J : MI} (hr : Rl I J) : ∃ v K L, F_A_text 2 I = some (v, K) ∧ F_R_text 2 J = some (v, L) ∧ Rl K L := by
  obtain ⟨⟨kw, -⟩, -, -, -, hc⟩ := id hr
  obtain ⟨X, I3, J1, J2, hX, e3, e1, hL0, p1, q28, q29, eA, eR, hIf, hJf, h0, h34, h35, h27⟩ := txt_pre hr (x := 2) (by decide) (by decide) (cl_O (x := 2) (t := 102) (by decide) rfl rfl (by decide))
  have w0 : I3 102 0 = nn 5 := by rw [hIf 102 0 rfl]; exact (con_at hc (t := 102) (w := 5) (r := 16) (by decide)).1
  have w1 : I3 102 1 = nn 16 := by rw [hIf 102 1 rfl]; exact (con_at hc (t := 102) (w := 5) (r := 16) (by decide)).2
  obtain ⟨-, ⟨rs1, rs2, -⟩, np, na, b1, b2, b3, b4, -⟩ := kw
  have m1 : I3 2 7 = nn np := by rw [hIf 2 7 rfl]; exact b1
  have m2 : J1 207 6 = nn np := by rw [hJf 207 6 rfl, rs1]; exact b1
  have m3 : I3 2 8 = nn na := by rw [hIf 2 8 rfl]; exact b3
  have m4 : J1 207 7 = nn na := by rw [hJf 207 7 rfl, rs2]; exact b3
  rw [A12 (Or.inr rfl), bn_cg eA, eR, rdT_2, bod_2]
  rcases go_dia hX (by rw [e3]; exact w0) (by rw [e3]; exact w1) (by rw [e3]; exact m1) (by rw [e1]; exact m2) b2 (by rw [e3]; exact m3) (by rw [e1]; exact m4) b4 p1 hL0 with ⟨I4, J4, s1, s2, hE⟩ | ⟨n, c, I4, J4, hL, s1, s2⟩
  · obtain ⟨L, l1, l2⟩ := txt_bad hr e3 e1 hIf hJf h0 hE 2
    exact ⟨-1, I4, L, by rw [bn_of s1]; rfl, by rw [bn_of s2]; exact l1, l2⟩
  · obtain ⟨L, l1, l2⟩ := txt_good hr e3 e1 hIf hJf h0 h34 h35 hL
    obtain ⟨d1, d2, d3, d4⟩ := hL.2.2.2
    have f4 : FI I3 I4 := by rw [← e3]; exact hL.2.1.2.2.2
    have y0 : I4 23 0 = nn 5 := by rw [f4 23 0 rfl, hIf 23 0 rfl]; exact (con_at hc (t := 23) (w := 5) (r := 16) (by decide)).1
    obtain ⟨K, t1, t2, t3, t4⟩ := takO_A (I := I4) (x := 2) (t0 := 23) (t1 := 102) (n := n) (w := 5) (by decide) rfl rfl d2 y0 rfl (by show n * 5 ≤ 80; omega) (by omega) (by decide) (by decide)
    have lo : ∀ a, a ≠ 207 → L a = J4 a := fun a ha => by rw [l1, bup_ne _ _ ha]
    obtain ⟨u, Lf, v1, v2, v3, v4, v5, v6⟩ := takD_R (J := L) d1
    have k2 : K 2 = I4 2 := t2 2 (by decide) (by decide)
    have hb : bDia K 23 2 Lf := dia_new hL (by rw [t3, upd_eq]) t4 (by rw [k2, f4 2 7 rfl]; exact m1) b2 (by rw [k2, f4 2 8 rfl]; exact m3) b4 v4 (by rw [v6, lo 227 (by decide)])
    refine ⟨nn n, bup K 0 (upd (K 0) 9 0), Lf, ?_, ?_, fin_dia l2 t2 t3 v2 v3 v5 hb⟩
    · rw [bn_of (s1.trans t1)]
      exact k19_n d1
    · rw [bn_of s2]
      unfold txtT K_R_text_69
      rw [if_neg (nn_mo d1), bn_wr, ← l1, if_neg (nn_mo d1), if_neg (by decide), bn_of v1]
      rfl
theorem text_3 {I J : MI} (hr : Rl I J) : ∃ v K L, F_A_text 3 I = some (v, K) ∧ F_R_text 3 J = some (v, L) ∧ Rl K L := by
  obtain ⟨-, -, -, -, hc⟩ := id hr
  obtain ⟨X, I3, J1, J2, hX, e3, e1, hL0, p1, q28, q29, eA, eR, hIf, hJf, h0, h34, h35, h27⟩ := txt_pre hr (x := 3) (by decide) (by decide) (cl_O (x := 3) (t := 104) (by decide) rfl rfl (by decide))
  have w0 : I3 104 0 = nn 2 := by rw [hIf 104 0 rfl]; exact (con_at hc (t := 104) (w := 2) (r := 16) (by decide)).1
  have w1 : I3 104 1 = nn 16 := by rw [hIf 104 1 rfl]; exact (con_at hc (t := 104) (w := 2) (r := 16) (by decide)).2
  rw [A03 (by decide) (by decide), eA, eR, rdT_3, bod_3]
  rcases go_way hX (by rw [e3]; exact w0) (by rw [e3]; exact w1) p1 hL0 with ⟨I4, J4, s1, s2, hE⟩ | ⟨n, c, I4, J4, hS, s1, s2⟩
  · obtain ⟨L, l1, l2⟩ := txt_bad hr e3 e1 hIf hJf h0 hE 3
    exact ⟨-1, I4, L, s1, by rw [bn_of s2]; exact l1, l2⟩
  · obtain ⟨f, g, hL⟩ := id hS
    obtain ⟨L, l1, l2⟩ := txt_good hr e3 e1 hIf hJf h0 h34 h35 hL
    obtain ⟨d1, d2, d3, d4⟩ := hL.2.2.2
    have f4 : FI I3 I4 := by rw [← e3]; exact hL.2.1.2.2.2
    have y0 : I4 25 0 = nn 2 := by rw [f4 25 0 rfl, hIf 25 0 rfl]; exact (con_at hc (t := 25) (w := 2) (r := 16) (by decide)).1
    obtain ⟨K, t1, t2, t3, t4⟩ := takO_A (I := I4) (x := 3) (t0 := 25) (t1 := 104) (n := n) (w := 2) (by decide) rfl rfl d2 y0 rfl (by show n * 2 ≤ 32; omega) (by omega) (by decide) (by decide)
    have lo : ∀ a, a ≠ 207 → L a = J4 a := fun a ha => by rw [l1, bup_ne _ _ ha]
    obtain ⟨u, Lf, v1, v2, v3, v4, v6⟩ := takW_R (J := L) (n := n)
    have hb : bWay K 25 Lf := way_new hS (by rw [t3, upd_eq]) t4 v4 (by rw [v6, lo 228 (by decide)])
    refine ⟨nn n, K, Lf, s1.trans t1, ?_, fin_way l2 t2 t3 v2 v3 hb⟩
    rw [bn_of s2]
    unfold txtT K_R_text_69
    rw [if_neg (nn_mo d1), bn_wr, ← l1, if_neg (nn_mo d1), if_neg (by decide), bn_of v1]
    rfl
theorem c_text (x : Int32) : Call (F_A_text x) (F_R_text x) := by
  intro I J hr
  rcases rng (v := x) 0 3 (by decide) (by decide) with ⟨k, _, k3, e⟩ | hout
  · have hk : k = 0 ∨ k = 1 ∨ k = 2 ∨ k = 3 := by omega
    rcases hk with z | z | z | z
    · subst z; rw [e]; exact text_0 hr
    · subst z; rw [e]; exact text_1 hr
    · subst z; rw [e]; exact text_2 hr
    · subst z; rw [e]; exact text_3 hr
  · obtain ⟨K, L, h1, h2, h3⟩ := text_out hr hout
    exact ⟨-1, K, L, h1, h2, h3⟩
end TC991
