/-! image -/
section SC48
theorem tkE {t0 t1 n w : Nat} {I I1 : MI} (h : TabOK t0 t1 I I1) (h3 : I t1 3 = nn n) (h0 : I t0 0 = nn w) (hn : n < 2 ^ 31) (hw : w < 2 ^ 31) : ∀ k, k < n * w → I1 (t0 + 1) k = I (t1 + 1) k := fun k hk => h.2.2.2 k (by rw [h3, h0, nn_nat hn, nn_nat hw]; exact hk)
theorem stk_copy {r0 r1 : Nat} {I I1 J : MI} (hr : r0 = 1 ∧ r1 = 47 ∨ r0 = 47 ∧ r1 = 1) (hc : ∀ e, e ∈ tabC → I e.1 0 = nn e.2.1 ∧ I e.1 1 = nn e.2.2) (hs : SG r0 r1 46 I I1) (hb : bStk I r1 J) : bStk I1 r0 J := by
  obtain ⟨-, g2, g3, g4, g5⟩ := hs
  have g2 := g2 (by decide)
  have g3 := g3 (by decide)
  obtain ⟨g5, g6⟩ := g5 (by decide)
  obtain ⟨⟨a1, a2, np0, na0, a3⟩, k2, k3, k4, k5, k6, k7, k8, k9, k10, k11, k12, k13, k14, k15, k16⟩ := hb
  have wq : ∀ c, r0 + 1 ≤ c → c < r0 + 1 + 11 → I1 c = bcS I (r0 + 1) (r1 + 1) 10 c := fun c h1 h2 => g2 c (by omega) (by omega)
  have T := fun o (h : o ∈ tOff) (h2 : o + 2 ≤ 46) => g4 o h h2
  refine ⟨⟨k_rW wq (rW_bc a1), k_rS wq (rS_bc a2), np0, na0, k_bW wq (bW_bc a3)⟩, ?_, ?_, ?_, ?_, ?_, ?_, ?_, ?_, ?_, ?_, ?_, ?_, ?_, ?_, ?_⟩
  · exact fun k hk => (k2 k hk).trans (g3 k hk).symm
  · obtain ⟨n, hn, c1, c2, ⟨c, c3, c4⟩, hL⟩ := k3
    have t := T 16 (by decide) (by decide)
    have w0 := wid (o := 16) (w := 4) (N := 16) hr hc (by decide) (by decide)
    have e := tkE t c1 w0 (by omega) (by decide)
    refine ⟨n, hn, t.1.trans c1, c2, ⟨c, c3, g5.trans c4⟩, fun i hi => ?_⟩
    obtain ⟨⟨v, v1, v2, v3⟩, f, m, t, q1, q2, q3, q4, q5, q6, q7, q8, q9, qc, qz⟩ := hL i hi
    refine ⟨⟨v, v1, (e (4 * i) (by omega)).trans v2, v3⟩, f, m, t, q1, q2, q3, (e (4 * i + 1) (by omega)).trans q4, q5, (e (4 * i + 2) (by omega)).trans q6, q7, (e (4 * i + 3) (by omega)).trans q8, q9, fun k k1 k2 => ⟨(qc k k1 k2).1, (g6 k (by omega)).trans (qc k k1 k2).2⟩, qz⟩
  · obtain ⟨n, hn, c1, c2, hs⟩ := k4
    have t := T 20 (by decide) (by decide)
    have w0 := wid (o := 20) (w := 4) (N := 16) hr hc (by decide) (by decide)
    have e := tkE t c1 w0 (by omega) (by decide)
    refine ⟨n, hn, t.1.trans c1, c2, fun i hi => ?_⟩
    obtain ⟨a, b, c, s, d, f, g⟩ := hs i hi
    exact ⟨a.trans (e (4 * i) (by omega)).symm, b.trans (e (4 * i + 1) (by omega)).symm, c.trans (e (4 * i + 2) (by omega)).symm, s, d, (e (4 * i + 3) (by omega)).trans f, g⟩
  · obtain ⟨n, hn, c1, c2, np, na, c3, c4, c5, c6, hs⟩ := k5
    have t := T 22 (by decide) (by decide)
    have w0 := wid (o := 22) (w := 5) (N := 16) hr hc (by decide) (by decide)
    have e := tkE t c1 w0 (by omega) (by decide)
    have f7 : I1 (r0 + 1) 7 = I (r1 + 1) 7 := by rw [wq (r0 + 1) (by omega) (by omega), bcS_f (by decide)]
    have f8 : I1 (r0 + 1) 8 = I (r1 + 1) 8 := by rw [wq (r0 + 1) (by omega) (by omega), bcS_f (by decide)]
    refine ⟨n, hn, t.1.trans c1, c2, np, na, f7.trans c3, c4, f8.trans c5, c6, fun i hi => ?_⟩
    obtain ⟨a, b, c, d, f⟩ := hs i hi
    refine ⟨a.trans (e (5 * i) (by omega)).symm, b.trans (e (5 * i + 1) (by omega)).symm, c.trans (e (5 * i + 3) (by omega)).symm, d.trans (e (5 * i + 4) (by omega)).symm, ?_⟩
    rw [e (5 * i + 2) (by omega), e (5 * i + 3) (by omega), e (5 * i + 4) (by omega)]
    exact f
  · obtain ⟨n, hn, c1, c2, f, g, h1, h2⟩ := k6
    have t := T 24 (by decide) (by decide)
    have w0 := wid (o := 24) (w := 2) (N := 16) hr hc (by decide) (by decide)
    have e := tkE t c1 w0 (by omega) (by decide)
    refine ⟨n, hn, t.1.trans c1, c2, f, g, fun i hi => ?_, h2⟩
    obtain ⟨a, b, c, d1, d2⟩ := h1 i hi
    exact ⟨a, b, c, (e (2 * i) (by omega)).trans d1, (e (2 * i + 1) (by omega)).trans d2⟩
  · obtain ⟨n, hn, c1, c2, hs⟩ := k7
    have t := T 26 (by decide) (by decide)
    have w0 := wid (o := 26) (w := 2) (N := 10) hr hc (by decide) (by decide)
    have e := tkE t c1 w0 (by omega) (by decide)
    refine ⟨n, hn, t.1.trans c1, c2, fun i hi => ?_⟩
    obtain ⟨⟨m, a, b, c⟩, s, d, f, g⟩ := hs i hi
    exact ⟨⟨m, a, (e (2 * i) (by omega)).trans b, c⟩, s, d, (e (2 * i + 1) (by omega)).trans f, g⟩
  · obtain ⟨n, hn, c1, c2, f, g, o, h1, h2⟩ := k8
    have t := T 28 (by decide) (by decide)
    have w0 := wid (o := 28) (w := 3) (N := 12) hr hc (by decide) (by decide)
    have e := tkE t c1 w0 (by omega) (by decide)
    refine ⟨n, hn, t.1.trans c1, c2, f, g, o, fun i hi => ?_, h2⟩
    obtain ⟨a, b, c, d0, d1, d2, d3⟩ := h1 i hi
    exact ⟨a, b, c, d0, (e (3 * i) (by omega)).trans d1, (e (3 * i + 1) (by omega)).trans d2, (e (3 * i + 2) (by omega)).trans d3⟩
  · obtain ⟨n, hn, c1, c2, hs⟩ := k9
    have t := T 30 (by decide) (by decide)
    have w0 := wid (o := 30) (w := 3) (N := 10) hr hc (by decide) (by decide)
    have e := tkE t c1 w0 (by omega) (by decide)
    refine ⟨n, hn, t.1.trans c1, c2, fun i hi => ?_⟩
    obtain ⟨⟨m, a, b, c⟩, ⟨m2, a2, b2, c2⟩, s, d, f, g⟩ := hs i hi
    exact ⟨⟨m, a, (e (3 * i) (by omega)).trans b, c⟩, ⟨m2, a2, (e (3 * i + 1) (by omega)).trans b2, c2⟩, s, d, (e (3 * i + 2) (by omega)).trans f, g⟩
  · obtain ⟨n, hn, c1, c2, hs⟩ := k10
    have t := T 32 (by decide) (by decide)
    have w0 := wid (o := 32) (w := 1) (N := 6) hr hc (by decide) (by decide)
    have e := tkE t c1 w0 (by omega) (by decide)
    refine ⟨n, hn, t.1.trans c1, c2, fun i hi => ?_⟩
    obtain ⟨m, a, b, c⟩ := hs i hi
    exact ⟨m, a, (e i (by omega)).trans b, c⟩
  · obtain ⟨n, hn, c1, c2, hs⟩ := k11
    have t := T 34 (by decide) (by decide)
    have w0 := wid (o := 34) (w := 1) (N := 12) hr hc (by decide) (by decide)
    have e := tkE t c1 w0 (by omega) (by decide)
    refine ⟨n, hn, t.1.trans c1, c2, fun i hi => ?_⟩
    obtain ⟨m, a, b, c⟩ := hs i hi
    exact ⟨m, a, (e i (by omega)).trans b, c⟩
  · obtain ⟨n, hn, c1, c2, hs⟩ := k12
    have t := T 36 (by decide) (by decide)
    have w0 := wid (o := 36) (w := 1) (N := 12) hr hc (by decide) (by decide)
    have e := tkE t c1 w0 (by omega) (by decide)
    refine ⟨n, hn, t.1.trans c1, c2, fun i hi => ?_⟩
    obtain ⟨m, a, b, c⟩ := hs i hi
    exact ⟨m, a, (e i (by omega)).trans b, c⟩
  · obtain ⟨n, hn, c1, c2, hs⟩ := k13
    have t := T 38 (by decide) (by decide)
    have w0 := wid (o := 38) (w := 1) (N := 8) hr hc (by decide) (by decide)
    have e := tkE t c1 w0 (by omega) (by decide)
    refine ⟨n, hn, t.1.trans c1, c2, fun i hi => ?_⟩
    obtain ⟨m, a, b, c⟩ := hs i hi
    exact ⟨m, a, (e i (by omega)).trans b, c⟩
  · obtain ⟨n, hn, c1, c2, hs⟩ := k14
    have t := T 40 (by decide) (by decide)
    have w0 := wid (o := 40) (w := 2) (N := 8) hr hc (by decide) (by decide)
    have e := tkE t c1 w0 (by omega) (by decide)
    refine ⟨n, hn, t.1.trans c1, c2, fun i hi => ?_⟩
    obtain ⟨⟨m, a, b, c⟩, s, d, f, g⟩ := hs i hi
    exact ⟨⟨m, a, (e (2 * i) (by omega)).trans b, c⟩, s, d, (e (2 * i + 1) (by omega)).trans f, g⟩
  · obtain ⟨n, hn, c1, c2, hs⟩ := k15
    have t := T 42 (by decide) (by decide)
    have w0 := wid (o := 42) (w := 1) (N := 10) hr hc (by decide) (by decide)
    have e := tkE t c1 w0 (by omega) (by decide)
    refine ⟨n, hn, t.1.trans c1, c2, fun i hi => ?_⟩
    obtain ⟨m, a, b, c⟩ := hs i hi
    exact ⟨m, a, (e i (by omega)).trans b, c⟩
  · obtain ⟨n, hn, c1, c2, hs, hl⟩ := k16
    have t := T 44 (by decide) (by decide)
    have w0 := wid (o := 44) (w := 3) (N := 8) hr hc (by decide) (by decide)
    have e := tkE t c1 w0 (by omega) (by decide)
    refine ⟨n, hn, t.1.trans c1, c2, fun i hi => ?_, fun k hk => ?_⟩
    · obtain ⟨⟨m, a, b⟩, ⟨m2, a2, b2⟩, s, d, f⟩ := hs i hi
      exact ⟨⟨m, a, (e (3 * i) (by omega)).trans b⟩, ⟨m2, a2, (e (3 * i + 1) (by omega)).trans b2⟩, s, d, (e (3 * i + 2) (by omega)).trans f⟩
    · rw [hl k hk]
      have lc : ∀ j, j ≤ n → loanS (I1 (r0 + 44 + 1)) k j = loanS (I (r1 + 44 + 1)) k j := by
        intro j
        induction j with
        | zero => intro _; rfl
        | succ j ih =>
          intro hj
          unfold loanS
          rw [ih (by omega), e (3 * j) (by omega), e (3 * j + 1) (by omega), e (3 * j + 2) (by omega)]
      exact (lc n (Nat.le_refl _)).symm
theorem dm_253 (k : Nat) : dm 253 k = 5000 := by
  unfold dm
  rw [if_neg (by decide)]
  simp (decide := true) only [dmL, dpos, if_false]
theorem dm_no {a k : Nat} (h : dm a k < 2079) : a ≠ 253 ∧ ¬ (a = 207 ∧ (k = 0 ∨ k = 3 ∨ k = 74 ∨ k = 75 ∨ k = 76)) := by
  refine ⟨fun e => ?_, fun e => ?_⟩
  · subst e; rw [dm_253] at h; omega
  · obtain ⟨rfl, rfl | rfl | rfl | rfl | rfl⟩ := e <;> exact absurd h (by decide)
theorem ut_stk {r0 r1 : Nat} {I I1 : MI} (hr : r0 = 1 ∧ r1 = 47 ∨ r0 = 47 ∧ r1 = 1) (hs : SG r0 r1 46 I I1) : UT I I1 := by
  have lo : ∀ t, t ∈ tabL → (t < 47 → t - 1 ∈ tOff ∧ 1 ≤ t) ∧ (47 ≤ t → t < 93 → t - 47 ∈ tOff) := by decide
  have lt : ∀ o, o ∈ tOff → o + 2 ≤ 46 := by decide
  intro t ht
  obtain ⟨l1, l2⟩ := lo t (memN_iff.mp ht)
  have go : ∀ o, o ∈ tOff → t = r0 + o → I1 t 0 = I t 0 ∧ I1 t 1 = I t 1 := fun o ho e => by
    have q := hs.2.2.2.1 o ho (lt o ho)
    rw [e]; exact ⟨q.2.1, q.2.2.1⟩
  have fr : (t ≤ r0 ∨ r0 + 46 ≤ t) → I1 t 0 = I t 0 ∧ I1 t 1 = I t 1 := fun h => by rw [hs.1 t h]; exact ⟨rfl, rfl⟩
  rcases Nat.lt_or_ge t 47 with h1 | h1
  · obtain ⟨p1, p2⟩ := l1 h1
    rcases hr with ⟨rfl, -⟩ | ⟨rfl, -⟩
    · exact go (t - 1) p1 (by omega)
    · exact fr (Or.inl (by omega))
  · rcases Nat.lt_or_ge t 93 with h2 | h2
    · have p1 := l2 h1 h2
      rcases hr with ⟨rfl, -⟩ | ⟨rfl, -⟩
      · exact fr (Or.inr (by omega))
      · exact go (t - 47) p1 (by omega)
    · exact fr (Or.inr (by omega))
def dmC : List Nat := [208, 242, 212, 213, 214, 211, 241, 250, 228, 231, 232, 235, 236, 238, 239, 240, 248, 244, 245, 246, 243, 226, 227, 215, 218, 219, 220, 221, 222, 223, 224]
theorem dmC_all : dmL.all (fun e => memN e.1 dmC) = true := by decide +kernel
theorem c_image {x : Int32} (hx : x = 0 ∨ x = 1) : Call (F_A_image x) (F_R_image x) := by
  refine call_of fun I J hr => ?_
  have told := rl_told hr
  unfold F_A_image F_R_image
  simp only [ok_bn, ok_wr]
  generalize bup J 207 (upd (J 207) 0 0) = K at *
  obtain ⟨kb, kt, kp, ki, kc⟩ := id told
  have hc := kc.1
  rcases hx with rfl | rfl
  · obtain ⟨i1, i2⟩ := ki
    rcases i2 with i2 | ⟨i2, i3⟩
    · rw [i2] at i1
      simp (decide := true) only [if_true, ok_bn, ok_rd, ok_ite, ok_gdZ, ok_rt, i1, i2, true_or, true_and]
      exact told
    · rw [i2] at i1
      obtain ⟨I1, e1, sg⟩ := stock_ok (r0 := 1) (r1 := 47) (Or.inl ⟨rfl, rfl⟩) hc i3
      have bc := stk_copy (Or.inl ⟨rfl, rfl⟩) hc sg i3
      have ut := ut_stk (Or.inl ⟨rfl, rfl⟩) sg
      obtain ⟨n, c, hn, -, h8, -⟩ := kp
      have fr := sg.1
      have z0 : I1 0 = I 0 := fr 0 (Or.inl (by decide))
      unfold F_A_forget
      have one0 : ¬ (1 : Int32) = 0 := by decide
      simp (decide := true) only [if_true, ok_bn, ok_rd, ok_wr, ok_wrZ, ok_ite, ok_gdZ, ok_rt, i1, i2, if_neg one0, or_true, true_or, true_and, ok_eq e1, bup_eq, bup_bup]
      generalize hJ0 : bup K 207 (upd (upd (upd (K 207) 74 0) 75 1) 76 0) = J0
      have ki0 : KI 0 J0 0 J0 := by
        refine ⟨?_, ?_, Or.inl ⟨rfl, rfl, fun a k _ _ => by rw [if_neg (by omega)]⟩⟩
        · rw [← hJ0, bup_eq, upd_ne _ _ (by decide), upd_ne _ _ (by decide), upd_eq]
        · rw [← hJ0, bup_eq, upd_eq]; rfl
      refine ok_mono (img_R (x1 := 0) ki0) fun v J2 q => ?_
      obtain ⟨rfl, J1, ⟨y1, y2, y3⟩, hJ2⟩ := q
      rw [if_pos rfl] at hJ2
      have y4 : J1 253 = J0 253 ∧ ∀ a k, a ≠ 253 → ¬ (a = 207 ∧ k = 76) → J1 a k = if dm a k < 2079 then J0 253 (dm a k) else J0 a k := by
        rcases y3 with ⟨-, q1, q2⟩ | ⟨q, -⟩
        · exact ⟨q1, q2⟩
        · exact absurd q (by decide)
      obtain ⟨y5, y6⟩ := y4
      have z253 : J0 253 = K 253 := by rw [← hJ0, bup_ne _ _ (by decide)]
      have w253 : J2 253 = K 253 := by rw [hJ2, bup_ne _ _ (by decide), y5, z253]
      have w3 : J2 207 3 = 0 := by rw [hJ2, bup_eq, upd_eq]
      have wd : ∀ a k, dm a k < 2079 → J2 a k = imV (K 253) a k := fun a k hd => by
        obtain ⟨n1, n2⟩ := dm_no hd
        have e : J2 a k = J1 a k := by
          rw [hJ2]
          by_cases ea : a = 207
          · subst ea; rw [bup_eq, upd_ne _ _ (fun e => n2 ⟨rfl, Or.inr (Or.inl e)⟩)]
          · rw [bup_ne _ _ ea]
        rw [e, y6 a k n1 (fun q => n2 ⟨q.1, Or.inr (Or.inr (Or.inr (Or.inr q.2)))⟩), if_pos hd, imV_dm hd, z253]
      have wo : ∀ a k, ¬ dm a k < 2079 → a ≠ 207 → J2 a k = K a k := fun a k hd n1 => by
        by_cases n2 : a = 253
        · subst n2; rw [w253]
        · rw [hJ2, bup_ne _ _ n1, y6 a k n2 (fun q => n1 q.1), if_neg hd, ← hJ0, bup_ne _ _ n1]
      have w7 : ∀ k, ¬ dm 207 k < 2079 → k ≠ 3 → k ≠ 74 → k ≠ 75 → k ≠ 76 → J2 207 k = K 207 k := fun k hd n1 n2 n3 n4 => by
        rw [hJ2, bup_eq, upd_ne _ _ n1, y6 207 k (by decide) (fun q => n4 q.2), if_neg hd, ← hJ0, bup_eq, upd_ne _ _ n4, upd_ne _ _ n3, upd_ne _ _ n2]
      have w75 : J2 207 75 = 1 := by
        rw [hJ2, bup_eq, upd_ne _ _ (by decide), y6 207 75 (by decide) (by decide), if_neg (by decide), ← hJ0, bup_eq, upd_ne _ _ (by decide), upd_eq]
      clear hJ2
      have iw : ∀ a, a ≠ 0 → (bup I1 0 (upd (I1 0) 9 0)) a = I1 a := fun a h => bup_ne _ _ h
      have i8 : (bup I1 0 (upd (I1 0) 9 0)) 0 8 = nn n := by rw [bup_eq, upd_ne _ _ (by decide), z0]; exact h8
      have i9 : (bup I1 0 (upd (I1 0) 9 0)) 0 9 = 0 := by rw [bup_eq, upd_eq]
      have i02 : (bup I1 0 (upd (I1 0) 9 0)) 0 2 = 1 := by rw [bup_eq, upd_ne _ _ (by decide), z0]; exact i2
      generalize bup I1 0 (upd (I1 0) 9 0) = I2 at *
      have hu : UI (0 :: List.range' 2 45) I I2 := fun a ha => by
        have n0 : a ≠ 0 := fun e => by subst e; cases ha
        rcases Nat.lt_or_ge a 2 with q1 | q1
        · rw [iw a n0]; exact fr a (Or.inl (by omega))
        · rcases Nat.lt_or_ge a 47 with q2 | q2
          · have : memN a (0 :: List.range' 2 45) = true := memN_iff.mpr (List.mem_cons_of_mem _ (List.mem_range'_1.mpr ⟨q1, q2⟩))
            rw [this] at ha; cases ha
          · rw [iw a n0]; exact fr a (Or.inr (by omega))
      have hv : UJ dmC (3 :: 74 :: 75 :: 76 :: dmF) K J2 := ⟨fun a ha => by
        have n1 : a ≠ 207 := fun e => by subst e; cases ha
        funext k
        refine wo a k (fun hd => ?_) n1
        have hd2 : dm a k = dpos dmL a k := if_neg n1
        obtain ⟨e, q1, q2, -⟩ := dpos_in (l := dmL) (a := a) (k := k) (by omega)
        have q3 := List.all_eq_true.mp dmC_all e q1
        rw [q2] at q3
        have q4 : memN a (207 :: dmC) = true := memN_iff.mpr (List.mem_cons_of_mem _ (memN_iff.mp q3))
        exact absurd (q4.symm.trans ha) (by decide), fun k hk => by
        have nm : ∀ j, j ∈ (3 :: 74 :: 75 :: 76 :: dmF) → k ≠ j := fun j hj e => by
          subst e
          rw [memN_iff.mpr hj] at hk; cases hk
        refine w7 k (fun hd => ?_) (nm 3 (by decide)) (nm 74 (by decide)) (nm 75 (by decide)) (nm 76 (by decide))
        have hd2 : dm 207 k = fpos dmF k 95 := rfl
        have q := fpos_in (l := dmF) (k := k) (p := 95) (by omega)
        exact nm k (List.mem_cons_of_mem _ (List.mem_cons_of_mem _ (List.mem_cons_of_mem _ (List.mem_cons_of_mem _ q)))) rfl⟩
      have tb : ∀ t, t ∈ tabL → t ≠ 0 := by decide
      have ht : UT I I2 := fun t ht => by
        rw [iw t (tb t (memN_iff.mp ht))]; exact ut t ht
      refine ⟨rfl, q_Stk wd (k_Stk (fun c h1 h2 => iw c (by omega)) bc), k_Tap hu hv (by decide +kernel) kt, pst_0 hn i8 i9 w3, ⟨w75.trans i02.symm, Or.inr ⟨i02, ?_⟩⟩, k_Con ht hu hv (by decide +kernel) kc⟩
      rw [w253]
      exact k_Stk (fun c h1 h2 => by rw [iw c (by omega)]; exact fr c (Or.inr (by omega))) i3
  · obtain ⟨I1, e1, sg⟩ := stock_ok (r0 := 47) (r1 := 1) (Or.inr ⟨rfl, rfl⟩) hc kb
    have bc := stk_copy (Or.inr ⟨rfl, rfl⟩) hc sg kb
    have ut := ut_stk (Or.inr ⟨rfl, rfl⟩) sg
    have fr := sg.1
    have z0 : I1 0 = I 0 := fr 0 (Or.inl (by decide))
    have one0 : ¬ (1 : Int32) = 0 := by decide
    simp (decide := true) only [ok_bn, ok_rd, ok_wr, ok_wrZ, ok_ite, ok_gdZ, ok_rt, if_neg one0, or_true, true_or, true_and, ok_eq e1, bup_eq, bup_bup]
    generalize hJ0 : bup K 207 (upd (upd (upd (K 207) 74 1) 75 1) 76 0) = J0
    have ki0 : KI 1 J0 0 J0 := by
      refine ⟨?_, ?_, Or.inr ⟨rfl, fun a k _ _ => rfl, fun a k h => absurd h (by omega)⟩⟩
      · rw [← hJ0, bup_eq, upd_ne _ _ (by decide), upd_ne _ _ (by decide), upd_eq]
      · rw [← hJ0, bup_eq, upd_eq]; rfl
    refine ok_mono (img_R (x1 := 1) ki0) fun v J2 q => ?_
    obtain ⟨rfl, J1, ⟨y1, y2, y3⟩, hJ2⟩ := q
    rw [if_neg one0] at hJ2
    subst hJ2
    have y4 : (∀ a k, a ≠ 253 → ¬ (a = 207 ∧ k = 76) → J2 a k = J0 a k) ∧ ∀ a k, dm a k < 2079 → J2 253 (dm a k) = J0 a k := by
      rcases y3 with ⟨q, -⟩ | ⟨-, q1, q2⟩
      · exact absurd q (by decide)
      · exact ⟨q1, q2⟩
    obtain ⟨y5, y6⟩ := y4
    have d0 : ∀ a k, dm a k < 2079 → J0 a k = K a k := fun a k hd => by
      obtain ⟨n1, n2⟩ := dm_no hd
      rw [← hJ0]
      by_cases ea : a = 207
      · subst ea
        rw [bup_eq, upd_ne _ _ (fun e => n2 ⟨rfl, Or.inr (Or.inr (Or.inr (Or.inr e)))⟩), upd_ne _ _ (fun e => n2 ⟨rfl, Or.inr (Or.inr (Or.inr (Or.inl e)))⟩), upd_ne _ _ (fun e => n2 ⟨rfl, Or.inr (Or.inr (Or.inl e))⟩)]
      · rw [bup_ne _ _ ea]
    have wd : ∀ a k, dm a k < 2079 → J2 a k = K a k := fun a k hd => by
      obtain ⟨n1, n2⟩ := dm_no hd
      rw [y5 a k n1 (fun q => n2 ⟨q.1, Or.inr (Or.inr (Or.inr (Or.inr q.2)))⟩)]
      exact d0 a k hd
    have wi : ∀ a k, dm a k < 2079 → imV (J2 253) a k = K a k := fun a k hd => by
      rw [imV_dm hd, y6 a k hd]; exact d0 a k hd
    have hv : UJ [253] [74, 75, 76] K J2 := ⟨fun a ha => by
      have n1 : a ≠ 207 := fun e => by subst e; cases ha
      have n2 : a ≠ 253 := fun e => by subst e; cases ha
      funext k
      rw [y5 a k n2 (fun q => n1 q.1), ← hJ0, bup_ne _ _ n1], fun k hk => by
      have n1 : k ≠ 74 := fun e => by subst e; cases hk
      have n2 : k ≠ 75 := fun e => by subst e; cases hk
      have n3 : k ≠ 76 := fun e => by subst e; cases hk
      rw [y5 207 k (by decide) (fun q => n3 q.2), ← hJ0, bup_eq, upd_ne _ _ n3, upd_ne _ _ n2, upd_ne _ _ n1]⟩
    have w75 : J2 207 75 = 1 := by
      rw [y5 207 75 (by decide) (by decide), ← hJ0, bup_eq, upd_ne _ _ (by decide), upd_eq]
    have iw : ∀ a, a ≠ 0 → (bup I1 0 (upd (I1 0) 2 1)) a = I1 a := fun a h => bup_ne _ _ h
    have i8 : (bup I1 0 (upd (I1 0) 2 1)) 0 8 = I 0 8 := by rw [bup_eq, upd_ne _ _ (by decide), z0]
    have i9 : (bup I1 0 (upd (I1 0) 2 1)) 0 9 = I 0 9 := by rw [bup_eq, upd_ne _ _ (by decide), z0]
    have i02 : (bup I1 0 (upd (I1 0) 2 1)) 0 2 = 1 := by rw [bup_eq, upd_eq]
    generalize bup I1 0 (upd (I1 0) 2 1) = I2 at *
    have hu : UI (0 :: List.range' 48 45) I I2 := fun a ha => by
      have n0 : a ≠ 0 := fun e => by subst e; cases ha
      rcases Nat.lt_or_ge a 48 with q1 | q1
      · rw [iw a n0]; exact fr a (Or.inl (by omega))
      · rcases Nat.lt_or_ge a 93 with q2 | q2
        · have : memN a (0 :: List.range' 48 45) = true := memN_iff.mpr (List.mem_cons_of_mem _ (List.mem_range'_1.mpr ⟨q1, q2⟩))
          rw [this] at ha; cases ha
        · rw [iw a n0]; exact fr a (Or.inr (by omega))
    have tb : ∀ t, t ∈ tabL → t ≠ 0 := by decide
    have ht : UT I I2 := fun t ht => by
      rw [iw t (tb t (memN_iff.mp ht))]; exact ut t ht
    refine ⟨rfl, q_Stk wd (k_Stk (fun c h1 h2 => by rw [iw c (by omega)]; exact fr c (Or.inl (by omega))) kb), k_Tap hu hv (by decide +kernel) kt, k_Pst hu hv i8 i9 (by decide +kernel) kp, ⟨w75.trans i02.symm, Or.inr ⟨i02, q_Stk wi (k_Stk (fun c h1 h2 => iw c (by omega)) bc)⟩⟩, k_Con ht hu hv (by decide +kernel) kc⟩
end SC48
