/-! in thought: goes, keeps -/
section SC42
theorem thinks_R (J : MI) : ∃ g, F_R_thinks J = some ((), bup (bup J 210 g) 207 (upd (J 207) 5 1)) ∧ ∀ k, k < 95 → g k = J 208 k := by
  have hl := ok_lp (body := B_R_thinks_2) (Q := fun (_ : Unit) K => ∃ g, K = bup (bup J 210 g) 207 (upd (J 207) 5 1) ∧ ∀ k, k < 95 → g k = J 208 k) (fun k x K => x = nn k ∧ ∃ g, K = bup J 210 g ∧ ∀ i, i < k → g i = J 208 i) 95
    (fun k x K hk hi => by
      obtain ⟨rfl, g, rfl, hg⟩ := hi
      have e1 : inR (nn k) 95 = true := inR_nn hk (by omega)
      have e2 : (nn k).toNatClampNeg = k := nn_nat (by omega)
      have e3 : nn k < 95 := (nn_lt (k := 95) (by omega) (by omega)).mpr hk
      have g1 : (bup J 210 g) 208 = J 208 := bup_ne _ _ (by decide)
      unfold B_R_thinks_2
      simp only [ok_bn, ok_ite, if_pos e3, ok_ld, ok_sr, ok_rt, e1, e2, true_and, g1, bup_eq, bup_bup]
      refine ⟨nn_s k, _, rfl, fun i hi => ?_⟩
      by_cases hik : i = k
      · subst hik; rw [upd_eq]
      · rw [upd_ne _ _ hik]; exact hg i (by omega))
    (fun x K hi => by
      obtain ⟨rfl, g, rfl, hg⟩ := hi
      have e3 : ¬ nn 95 < 95 := by decide
      have g1 : (bup J 210 g) 207 = J 207 := bup_ne _ _ (by decide)
      unfold B_R_thinks_2
      simp (decide := true) only [ok_bn, ok_ite, if_neg e3, ok_wrZ, ok_rt, g1, true_and]
      exact ⟨g, rfl, hg⟩) FU 0 J (by rw [FU_eq]; omega) ⟨rfl, J 210, (bup_self J 210).symm, fun i hi => absurd hi (by omega)⟩
  obtain ⟨x, K, h1, g, rfl, hg⟩ := hl
  exact ⟨g, h1, hg⟩
theorem ends_R (J : MI) : ∃ g, F_R_endsThought J = some ((), bup (bup J 208 g) 207 (upd (J 207) 5 0)) ∧ ∀ k, k < 95 → g k = J 210 k := by
  have hl := ok_lp (body := B_R_endsThought_2) (Q := fun (_ : Unit) K => ∃ g, K = bup (bup J 208 g) 207 (upd (J 207) 5 0) ∧ ∀ k, k < 95 → g k = J 210 k) (fun k x K => x = nn k ∧ ∃ g, K = bup J 208 g ∧ ∀ i, i < k → g i = J 210 i) 95
    (fun k x K hk hi => by
      obtain ⟨rfl, g, rfl, hg⟩ := hi
      have e1 : inR (nn k) 95 = true := inR_nn hk (by omega)
      have e2 : (nn k).toNatClampNeg = k := nn_nat (by omega)
      have e3 : nn k < 95 := (nn_lt (k := 95) (by omega) (by omega)).mpr hk
      have g1 : (bup J 208 g) 210 = J 210 := bup_ne _ _ (by decide)
      unfold B_R_endsThought_2
      simp only [ok_bn, ok_ite, if_pos e3, ok_ld, ok_sr, ok_rt, e1, e2, true_and, g1, bup_eq, bup_bup]
      refine ⟨nn_s k, _, rfl, fun i hi => ?_⟩
      by_cases hik : i = k
      · subst hik; rw [upd_eq]
      · rw [upd_ne _ _ hik]; exact hg i (by omega))
    (fun x K hi => by
      obtain ⟨rfl, g, rfl, hg⟩ := hi
      have e3 : ¬ nn 95 < 95 := by decide
      have g1 : (bup J 208 g) 207 = J 207 := bup_ne _ _ (by decide)
      unfold B_R_endsThought_2
      simp (decide := true) only [ok_bn, ok_ite, if_neg e3, ok_wrZ, ok_rt, g1, true_and]
      exact ⟨g, rfl, hg⟩) FU 0 J (by rw [FU_eq]; omega) ⟨rfl, J 208, (bup_self J 208).symm, fun i hi => absurd hi (by omega)⟩
  obtain ⟨x, K, h1, g, rfl, hg⟩ := hl
  exact ⟨g, h1, hg⟩
theorem think {I J : MI} {np na : Nat} (hr : Rl I J) (hb : bW I 2 np na) : ∃ I1 J1, F_World_become 111 2 I = some ((), I1) ∧ F_R_thinks J = some ((), J1) ∧ HC 122 111 np na 1 I1 J1 ∧ TT 111 np na 1 (I1 111 3) I1 J1 I1 J1 ∧ ∀ e I2 J2, TT 111 np na 1 e I1 J1 I2 J2 → ∃ J3, F_R_endsThought J2 = some ((), J3) ∧ Rl I2 J3 := by
  obtain ⟨⟨k1, -, k3, k4, k5, -⟩, -, -, -, kc⟩ := id hr
  obtain ⟨r1, r2, -⟩ := k1
  obtain ⟨g, hg, hg2⟩ := thinks_R J
  have o1 : ∀ a, (a < 111 ∨ 121 < a) → bcS I 111 2 10 a = I a := fun a h => bcS_o h
  have jo : ∀ a, a ≠ 207 → a ≠ 210 → (bup (bup J 210 g) 207 (upd (J 207) 5 1)) a = J a := fun a h1 h2 => by rw [bup_ne _ _ h1, bup_ne _ _ h2]
  have j5 : (bup (bup J 210 g) 207 (upd (J 207) 5 1)) 207 5 = 1 := by rw [bup_eq, upd_eq]
  have jk : ∀ k, k ≠ 5 → (bup (bup J 210 g) 207 (upd (J 207) 5 1)) 207 k = J 207 k := fun k h => by rw [bup_eq, upd_ne _ _ h]
  have j10 : (bup (bup J 210 g) 207 (upd (J 207) 5 1)) 210 = g := by rw [bup_ne _ _ (by decide), bup_eq]
  have w1 := rW_bc (r0 := 111) r1
  have w2 := rS_bc (r0 := 111) r2
  have w3 := bW_bc (r0 := 111) hb
  refine ⟨_, _, become (by decide), hg, ?_, ?_, ?_⟩
  · refine ⟨Or.inr ⟨rfl, rfl, rfl⟩, ?_, j5, ?_, ?_, ?_, ?_, ?_, ?_, w3.1, w3.2.2.1⟩
    · rw [o1 122 (by decide)]; exact kc.2.2.1
    · exact k_Law (fun a h1 h2 => o1 a (by omega)) (jo 218 (by decide) (by decide)) (jo 219 (by decide) (by decide)) (jo 220 (by decide) (by decide)) (jo 221 (by decide) (by decide)) (jo 222 (by decide) (by decide)) (jo 223 (by decide) (by decide)) (jo 224 (by decide) (by decide)) k3
    · exact k_Sha (fun a h1 h2 => o1 a (by omega)) (jk 36 (by decide)) (jo 226 (by decide) (by decide)) k4
    · obtain ⟨n, hn, d1, d2, np0, na0, d3, d4, d5, d6, d7⟩ := k5
      refine ⟨n, hn, ?_, (jk 38 (by decide)).trans d2, np0, na0, ?_, d4, ?_, d6, ?_⟩
      · rw [o1 23 (by decide)]; exact d1
      · rw [bcS_f (by decide)]; exact d3
      · rw [bcS_f (by decide)]; exact d5
      · rw [jo 227 (by decide) (by decide), o1 (23 + 1) (by decide)]; exact d7
    · rw [o1 17 (by decide)]; exact (con_at kc (t := 17) (w := 4) (r := 16) (by decide)).1
    · rw [o1 21 (by decide)]; exact (con_at kc (t := 21) (w := 4) (r := 16) (by decide)).1
    · rw [o1 23 (by decide)]; exact (con_at kc (t := 23) (w := 5) (r := 16) (by decide)).1
  · refine ⟨fun _ _ _ _ => rfl, fun _ _ _ _ _ => rfl, ?_, ?_, w3, Or.inr ⟨rfl, rfl, rfl⟩, rfl⟩
    · rw [jo 208 (by decide) (by decide)]; exact w1
    · rw [jk 6 (by decide), jk 7 (by decide), jo 211 (by decide) (by decide), jo 212 (by decide) (by decide), jo 213 (by decide) (by decide), jo 214 (by decide) (by decide)]; exact w2
  · intro e I2 J2 tt
    obtain ⟨t1, t2, -, -, -, t6, -⟩ := tt
    obtain ⟨h, hh, hh2⟩ := ends_R J2
    have hb1 : I2 14 = bcS I 111 2 10 14 ∧ J2 215 = (bup (bup J 210 g) 207 (upd (J 207) 5 1)) 215 := by
      rcases t6 with ⟨q, -⟩ | ⟨-, q⟩
      · exact absurd q (by decide)
      · exact q
    have e1 : ∀ a, a ≠ 20 → (a < 111 ∨ 121 < a) → I2 a = I a := fun a n1 n2 => by
      by_cases h14 : a = 14
      · subst h14; rw [hb1.1, o1 14 (by decide)]
      · rw [t1 a h14 n1 (by omega), o1 a n2]
    have e2 : ∀ a, a ≠ 207 → a ≠ 208 → a ≠ 210 → a ≠ 229 → a ≠ 230 → J2 a = J a := fun a n1 n2 n3 n4 n5 => by
      by_cases h15 : a = 215
      · subst h15; rw [hb1.2, jo 215 (by decide) (by decide)]
      · rw [t2 a n2 h15 n4 n5, jo a n1 n3]
    have e7 : J2 207 = (bup (bup J 210 g) 207 (upd (J 207) 5 1)) 207 := t2 207 (by decide) (by decide) (by decide) (by decide)
    have e10 : J2 210 = g := (t2 210 (by decide) (by decide) (by decide) (by decide)).trans j10
    have f7 : (bup (bup J2 208 h) 207 (upd (J2 207) 5 0)) 207 = J 207 := by
      rw [bup_eq, e7, bup_eq, upd_upd, upd_self kc.2.2.2.2.2]
    have f8 : (bup (bup J2 208 h) 207 (upd (J2 207) 5 0)) 208 = h := by rw [bup_ne _ _ (by decide), bup_eq]
    have fo : ∀ a, a ≠ 207 → a ≠ 208 → (bup (bup J2 208 h) 207 (upd (J2 207) 5 0)) a = J2 a := fun a n1 n2 => by rw [bup_ne _ _ n1, bup_ne _ _ n2]
    refine ⟨_, hh, ?_⟩
    generalize bup (bup J2 208 h) 207 (upd (J2 207) 5 0) = J3 at *
    have hu : UI (20 :: List.range' 111 11) I I2 := fun a ha => by
      have n2 : a ≠ 20 := fun e => by subst e; cases ha
      rcases Nat.lt_or_ge a 111 with q1 | q1
      · exact e1 a n2 (Or.inl q1)
      · rcases Nat.lt_or_ge a 122 with q2 | q2
        · have : memN a (20 :: List.range' 111 11) = true := memN_iff.mpr (List.mem_cons_of_mem _ (List.mem_range'_1.mpr ⟨q1, q2⟩))
          rw [this] at ha; cases ha
        · exact e1 a n2 (Or.inr (by omega))
    have hv : UJ [208, 210, 229, 230] [] J J3 := ⟨fun a ha => by
      have n0 : a ≠ 207 := fun e => by subst e; cases ha
      have n1 : a ≠ 208 := fun e => by subst e; cases ha
      have n2 : a ≠ 210 := fun e => by subst e; cases ha
      have n3 : a ≠ 229 := fun e => by subst e; cases ha
      have n4 : a ≠ 230 := fun e => by subst e; cases ha
      rw [fo a n0 n1]; exact e2 a n0 n1 n2 n3 n4, fun k _ => by rw [f7]⟩
    have tb : ∀ t, t ∈ tabL → t ≠ 20 ∧ t < 111 := by decide
    have ht : UT I I2 := fun t ht => by
      obtain ⟨q1, q2⟩ := tb t (memN_iff.mp ht)
      rw [e1 t q1 (Or.inl q2)]; exact ⟨rfl, rfl⟩
    have z : I2 0 = I 0 := e1 0 (by decide) (by decide)
    have wq : ∀ c, 2 ≤ c → c < 2 + 11 → I2 c = I c := fun c h1 h2 => e1 c (by omega) (by omega)
    have jw : bWor I2 2 J3 := by
      refine ⟨?_, ?_, np, na, k_bW wq hb⟩
      · rw [f8]
        exact k_rW wq (rW_cg (fun k hk => by rw [hh2 k hk, e10, hg2 k hk]) r1)
      · rw [f7, fo 211 (by decide) (by decide), fo 212 (by decide) (by decide), fo 213 (by decide) (by decide), fo 214 (by decide) (by decide), e2 211 (by decide) (by decide) (by decide) (by decide) (by decide), e2 212 (by decide) (by decide) (by decide) (by decide) (by decide), e2 213 (by decide) (by decide) (by decide) (by decide) (by decide), e2 214 (by decide) (by decide) (by decide) (by decide) (by decide)]
        exact k_rS wq r2
    exact rl_of hr hu hv ht (by rw [z]) (Or.inr jw) (Or.inl (by decide +kernel)) (Or.inl (by decide +kernel)) (Or.inl (by decide +kernel)) (Or.inl (by decide +kernel)) (Or.inl (by decide +kernel)) (Or.inl (by decide +kernel)) (Or.inl (by decide +kernel)) (Or.inl (by decide +kernel)) (Or.inl (by decide +kernel)) (Or.inl (by decide +kernel)) (Or.inl (by decide +kernel)) (Or.inl (by decide +kernel)) (Or.inl (by decide +kernel)) (Or.inl (by decide +kernel)) (Or.inl (by decide +kernel)) (Or.inl (by decide +kernel)) (Or.inl ⟨by rw [z], by rw [z], by decide +kernel⟩) (Or.inl (by decide +kernel)) (Or.inl (by decide +kernel))
theorem c_keeps (x : Int32) : Call (F_A_keeps x) (F_R_keeps x) := by
  refine call_of fun I J hr => ?_
  have told := rl_told hr
  unfold F_A_keeps F_R_keeps
  simp only [ok_bn, ok_wr, isA_A, isA_R]
  generalize bup J 207 (upd (J 207) 0 0) = K at *
  obtain ⟨⟨k1, -⟩, -⟩ := id told
  obtain ⟨r1, r2, np, na, hb⟩ := k1
  have w8 := hb.2.2.1
  have hna := hb.2.2.2.1
  have j8 : K 207 7 = nn na := r2.2.1.trans w8
  rcases nlt (x := x) na (by omega) with ⟨a, ha, rfl⟩ | out
  · have ha2 : a < 18 := by omega
    have cA : isX 2 8 (nn a) I = some (1, I) := isX_in w8 ha (by omega)
    have cR : isX 207 7 (nn a) K = some (1, K) := isX_in j8 ha (by omega)
    obtain ⟨I1, J1, e1, e2, hc, t0, hend⟩ := think told hb
    have i1 : inR (nn a) 18 = true := inR_nn ha2 (by omega)
    have u1 : (nn a).toNatClampNeg = a := nn_nat (by omega)
    unfold K_A_keeps_32 K_R_keeps_21
    simp (decide := true) only [ok_eq cA, ok_eq cR, ok_eq e1, ok_eq e2, if_false, ok_bn]
    have key := lpN (b1 := B_A_keeps_32 (nn a)) (b2 := B_R_keeps_21 (nn a)) (Q := fun u I2 v J2 => (∃ e, TT 111 np na 1 e I1 J1 I2 J2) ∧ ((u = -1 ∧ 100 < v) ∨ (u = v ∧ ¬ 100 < v))) 101 (fun i x I2 y J2 => x = nn i ∧ y = nn i ∧ ∃ e, TT 111 np na 1 e I1 J1 I2 J2) (fun i x I2 y J2 hi hP => by
      obtain ⟨rfl, rfl, e, tt⟩ := hP
      have g1 : ¬ 100 < nn i := fun q => by have := (nn_lt (j := 100) (by omega) (by omega)).mp q; omega
      obtain ⟨-, -, tR, tS, ⟨-, -, -, -, -, -, -, -, -, -, ws, -⟩, -, -⟩ := id tt
      have sR := isStruck_R (J := J2) ha2
      rw [tR.2.2.2.2.2.2.2.2.2.2.2.2 a ha2] at sR
      unfold B_A_keeps_32 B_R_keeps_21
      rcases ws a ha2 with q0 | q0
      · have q0' : I2 121 a = 0 := q0
        rw [q0, if_neg (by decide)] at sR
        obtain ⟨_, I3, p1, u, J3, p2, tt3⟩ := h_pass hc tt
        simp only [ok_bn, ok_ite, ok_ld, ok_rt, if_neg g1, i1, u1, q0', ok_eq sR, if_true, ok_eq p1, ok_eq p2, true_and, nn_s]
        exact sd_l.mpr ⟨rfl, rfl, _, tt3⟩
      · have q0' : I2 121 a = 1 := q0
        rw [q0, if_pos rfl] at sR
        simp (decide := true) only [ok_bn, ok_ite, ok_ld, ok_rt, if_neg g1, i1, u1, q0', ok_eq sR, if_false, true_and, nn_s]
        exact sd_r.mpr ⟨⟨e, tt⟩, Or.inr ⟨rfl, g1⟩⟩) (fun x I2 y J2 hP => by
      obtain ⟨rfl, rfl, e, tt⟩ := hP
      have g1 : 100 < nn 101 := by decide
      unfold B_A_keeps_32 B_R_keeps_21
      simp only [ok_bn, ok_ite, if_pos g1, ok_rt]
      exact sd_r.mpr ⟨⟨e, tt⟩, Or.inl ⟨rfl, g1⟩⟩) (by omega) (x := 0) (I := I1) (y := 0) (J := J1) ⟨rfl, rfl, _, t0⟩
    refine ok_mono key fun u I2 q => ?_
    obtain ⟨v, J2, p1, ⟨e, tt⟩, huv⟩ := q
    obtain ⟨J3, p2, rl3⟩ := hend e I2 J2 tt
    unfold K_R_keeps_47
    rw [ok_eq p1]
    simp only [ok_bn, ok_eq p2, ok_ite, ok_rt]
    rcases huv with ⟨rfl, hv⟩ | ⟨rfl, hv⟩
    · simp only [if_pos hv, true_and]
      exact rl3
    · simp only [if_neg hv, true_and]
      exact rl3
  · have cA : isX 2 8 x I = some (0, I) := isX_out w8 out
    have cR : isX 207 7 x K = some (0, K) := isX_out j8 out
    simp (decide := true) only [ok_rt, ok_eq cA, ok_eq cR, if_true, true_and]
    exact told
theorem c_goes (x y : Int32) : Call (F_A_goes x y) (F_R_goes x y) := by
  refine call_of fun I J hr => ?_
  have told := rl_told hr
  unfold F_A_goes F_R_goes
  simp only [ok_bn, ok_wr]
  generalize bup J 207 (upd (J 207) 0 0) = K at *
  obtain ⟨⟨k1, -⟩, -⟩ := id told
  obtain ⟨r1, r2, np, na, hb⟩ := k1
  rcases rng (v := x) 1 60 (by decide) (by decide) with ⟨n, hn, hn2, rfl⟩ | out
  · have q1 := rng_in (a := 1) (b := 60) (k := n) (by decide) hn hn2
    have wA : F_A_within (nn n) 1 60 = rt 1 := wi_in q1.1 q1.2
    have wR : F_R_isIn (nn n) 1 60 = rt 1 := ri_in q1.1 q1.2
    rcases rng (v := y) 0 3 (by decide) (by decide) with ⟨m, -, hm2, rfl⟩ | out
    · have q2 := rng_in (a := 0) (b := 3) (k := m) (by decide) (Nat.zero_le m) hm2
      have vA : F_A_within (nn m) 0 3 = rt 1 := wi_in q2.1 q2.2
      have vR : F_R_isIn (nn m) 0 3 = rt 1 := ri_in q2.1 q2.2
      obtain ⟨I1, J1, e1, e2, hc, t0, hend⟩ := think told hb
      unfold K_A_goes_37 K_R_goes_34
      simp (decide := true) only [wA, wR, vA, vR, ok_rt, ok_eq e1, ok_eq e2, if_false, ok_bn, ok_ite]
      have key := lpN (b1 := B_A_goes_37 (nn n) (nn m)) (b2 := B_R_goes_34 (nn n) (nn m)) (Q := fun _ I2 _ J2 => ∃ e, TT 111 np na 1 e I1 J1 I2 J2) n (fun i x I2 y J2 => x = nn i ∧ y = nn i ∧ ∃ e, TT 111 np na 1 e I1 J1 I2 J2) (fun i x I2 y J2 hi hP => by
        obtain ⟨rfl, rfl, e, tt⟩ := hP
        have g1 : nn i < nn n := (nn_lt (by omega) (by omega)).mpr hi
        obtain ⟨_, I3, p1, u, J3, p2, tt3⟩ := h_pass hc tt
        unfold B_A_goes_37 B_R_goes_34
        simp only [ok_bn, ok_ite, ok_rt, if_pos g1, ok_eq p1, ok_eq p2, nn_s]
        exact sd_l.mpr ⟨rfl, rfl, _, tt3⟩) (fun x I2 y J2 hP => by
        obtain ⟨rfl, rfl, e, tt⟩ := hP
        have g1 : ¬ nn n < nn n := fun q => by have := (nn_lt (by omega) (by omega)).mp q; omega
        unfold B_A_goes_37 B_R_goes_34
        simp only [ok_bn, ok_ite, ok_rt, if_neg g1]
        exact sd_r.mpr ⟨e, tt⟩) (by omega) (x := 0) (I := I1) (y := 0) (J := J1) ⟨rfl, rfl, _, t0⟩
      refine ok_mono key fun u I2 q => ?_
      obtain ⟨v, J2, p1, ⟨e, tt⟩⟩ := q
      obtain ⟨J3, p2, rl3⟩ := hend e I2 J2 tt
      simp only [ok_eq p1]
      obtain ⟨-, -, tR, tS, ⟨w7, hnp, -⟩, -, -⟩ := id tt
      obtain ⟨-, -, -, -, x4, x5, x6, -, x17, -⟩ := id tR
      have j7 : J2 207 6 = nn np := tS.1.trans w7
      have one : ∀ v, ¬ nn m = 0 → Ok (K_R_goes_98 (nn m) v 0) J2 fun u J4 => u = v ∧ J4 = J3 := fun v h0 => by
        unfold K_R_goes_98
        refine ok_lp (fun k x K => x = (v, 0) ∧ K = J2) 0 (fun k x K hk => absurd hk (by omega)) (fun x K hi => ?_) FU (v, 0) J2 (by rw [FU_eq]; omega) ⟨rfl, rfl⟩
        obtain ⟨rfl, rfl⟩ := hi
        unfold B_R_goes_98
        simp only [ok_bn, ok_rd, ok_ite, ok_rt, j7, if_neg h0, ok_eq p2, ite_self, and_self]
      have z4 : inR (4 : Int32) 95 = true := by decide
      have y4 : (4 : Int32).toNatClampNeg = 4 := by decide
      have z5 : inR (5 : Int32) 95 = true := by decide
      have y5 : (5 : Int32).toNatClampNeg = 5 := by decide
      have z6 : inR (6 : Int32) 95 = true := by decide
      have y6 : (6 : Int32).toNatClampNeg = 6 := by decide
      unfold K_A_goes_55 K_R_goes_50
      have hm4 : m = 0 ∨ m = 1 ∨ m = 2 ∨ m = 3 := by omega
      rcases hm4 with rfl | rfl | rfl | rfl
      · have sA : F_World_purses 111 I2 = some (sumF (I2 114) np, I2) := by
          unfold F_World_purses K_World_purses_4
          refine sum_lp _ (by omega) (fun k x hk => ?_) (fun x => ?_)
          · have g1 : nn k < nn np := (nn_lt (by omega) (by omega)).mpr hk
            have i1 : inR (nn k) 6 = true := inR_nn (by omega) (by omega)
            have u1 : (nn k).toNatClampNeg = k := nn_nat (by omega)
            have hO : Ok (B_World_purses_4 111 (x, nn k)) I2 fun r K => r = .inl (x + I2 114 k, nn (k + 1)) ∧ K = I2 := by
              unfold B_World_purses_4
              simp only [ok_bn, ok_rd, ok_ld, ok_ite, ok_rt, w7, if_pos g1, i1, u1, nn_s, true_and, and_self]
            obtain ⟨_, _, h1, rfl, rfl⟩ := hO
            exact h1
          · have g1 : ¬ nn np < nn np := fun q => by have := (nn_lt (by omega) (by omega)).mp q; omega
            have hO : Ok (B_World_purses_4 111 (x, nn np)) I2 fun r K => r = .inr x ∧ K = I2 := by
              unfold B_World_purses_4
              simp only [ok_bn, ok_rd, ok_ite, ok_rt, w7, if_neg g1, and_self]
            obtain ⟨_, _, h1, rfl, rfl⟩ := hO
            exact h1
        have sR : Ok (K_R_goes_98 (nn 0) 0 0) J2 fun u J4 => u = sumF (I2 114) np ∧ J4 = J3 := by
          unfold K_R_goes_98
          refine ok_lp (fun k x K => x = (sumF (I2 114) k, nn k) ∧ K = J2) np (fun k x K hk hi => ?_) (fun x K hi => ?_) FU (0, 0) J2 (by rw [FU_eq]; omega) ⟨rfl, rfl⟩
          · obtain ⟨rfl, rfl⟩ := hi
            have g1 : nn k < nn np := (nn_lt (by omega) (by omega)).mpr hk
            have a17 : (17 : Int32) + nn k = nn (17 + k) := nn_add 17 k
            have i17 : inR (nn (17 + k)) 95 = true := inR_nn (by omega) (by omega)
            have t17 : (nn (17 + k)).toNatClampNeg = 17 + k := nn_nat (by omega)
            have v17 : K 208 (17 + k) = I2 114 k := x17 k (by omega)
            unfold B_R_goes_98
            simp only [ok_bn, ok_rd, ok_ld, ok_ite, ok_rt, j7, if_pos g1, if_pos (show nn 0 = 0 from rfl), a17, i17, t17, v17, nn_s, true_and, and_true]
            rfl
          · obtain ⟨rfl, rfl⟩ := hi
            have g1 : ¬ nn np < nn np := fun q => by have := (nn_lt (by omega) (by omega)).mp q; omega
            unfold B_R_goes_98
            simp only [ok_bn, ok_rd, ok_ite, ok_rt, j7, if_neg g1, ok_eq p2, and_self]
        obtain ⟨_, _, h1, rfl, rfl⟩ := sR
        simp (decide := true) only [if_true, if_false, ok_bn, ok_rt, ok_eq sA, ok_eq h1, true_and]
        exact rl3
      · obtain ⟨_, _, h1, rfl, rfl⟩ := one (I2 111 1) (by decide)
        simp (decide := true) only [if_true, if_false, ok_bn, ok_rd, ok_ld, ok_rt, z4, y4, x4, ok_eq h1, true_and]
        exact rl3
      · obtain ⟨_, _, h1, rfl, rfl⟩ := one (I2 111 3) (by decide)
        simp (decide := true) only [if_true, if_false, ok_bn, ok_rd, ok_ld, ok_rt, z6, y6, x6, ok_eq h1, true_and]
        exact rl3
      · obtain ⟨_, _, h1, rfl, rfl⟩ := one (I2 111 2) (by decide)
        simp (decide := true) only [if_true, if_false, ok_bn, ok_rd, ok_ld, ok_rt, z5, y5, x5, ok_eq h1, true_and]
        exact rl3
    · have vA : F_A_within y 0 3 = rt 0 := wi_out out
      have vR : F_R_isIn y 0 3 = rt 0 := ri_out out
      simp (decide := true) only [wA, wR, vA, vR, ok_bn, ok_rt, ok_ite, if_true, if_false, true_and]
      exact told
  · have wA : F_A_within x 1 60 = rt 0 := wi_out out
    have wR : F_R_isIn x 1 60 = rt 0 := ri_out out
    simp (decide := true) only [wA, wR, ok_bn, ok_rt, ok_ite, if_true, true_and]
    exact told
end SC42
