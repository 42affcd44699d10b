/-! the law tells -/
section SC34
def wV (I : MI) (w a p s o j : Nat) : Int32 := if j = 0 then I (w + 5) a else if j = 1 then I (w + 2) p else if j = 2 then I (w + 1) s else if j = 3 then I (w + 9) a else if j = 4 then I (w + 3) p else if j = 5 then I w 4 else if j = 6 then nn s else if j = 7 then nn o else I w 5
theorem word_A {I K : MI} {w na a p s j : Nat} (hw : w = 2 ∨ w = 111) (hK : ∀ c, c ≠ 20 → K c = I c) (h8 : I w 8 = nn na) (hna : na ≤ 18) (ha : a < 18) (hp : I (w + 4) a = nn p) (hp6 : p < 6) (hs : I (w + 7) a = nn s) (hs10 : s < 10) (hj : j < 9) : F_Law_wordWorth w (nn a) (nn (7 + j)) K = some (wV I w a p s (cntN (fun k => (!decide (I (w + 8) k = 0) && decide (I (w + 7) k = I (w + 7) a)) && !decide (k = a)) na) j, K) := by
  have k0 : K w = I w := hK _ (by omega)
  have k1 : K (w + 1) = I (w + 1) := hK _ (by omega)
  have k2 : K (w + 2) = I (w + 2) := hK _ (by omega)
  have k3 : K (w + 3) = I (w + 3) := hK _ (by omega)
  have k4 : K (w + 4) = I (w + 4) := hK _ (by omega)
  have k5 : K (w + 5) = I (w + 5) := hK _ (by omega)
  have k7 : K (w + 7) = I (w + 7) := hK _ (by omega)
  have k8 : K (w + 8) = I (w + 8) := hK _ (by omega)
  have k9 : K (w + 9) = I (w + 9) := hK _ (by omega)
  have e1 : inR (nn a) 18 = true := inR_nn ha (by omega)
  have e2 : (nn a).toNatClampNeg = a := nn_nat (by omega)
  have e3 : inR (nn p) 6 = true := inR_nn hp6 (by omega)
  have e4 : (nn p).toNatClampNeg = p := nn_nat (by omega)
  have e5 : inR (nn s) 10 = true := inR_nn hs10 (by omega)
  have e6 : (nn s).toNatClampNeg = s := nn_nat (by omega)
  have oB := beside2_A (I := K) (w := w) (by rw [k0]; exact h8) hna ha
  rw [k7, k8] at oB
  generalize cntN (fun k => (!decide (I (w + 8) k = 0) && decide (I (w + 7) k = I (w + 7) a)) && !decide (k = a)) na = o at *
  have hO : Ok (F_Law_wordWorth w (nn a) (nn (7 + j))) K fun v M => v = wV I w a p s o j ∧ M = K := by
    have hj2 : j = 0 ∨ j = 1 ∨ j = 2 ∨ j = 3 ∨ j = 4 ∨ j = 5 ∨ j = 6 ∨ j = 7 ∨ j = 8 := by omega
    unfold F_Law_wordWorth wV
    rcases hj2 with rfl | rfl | rfl | rfl | rfl | rfl | rfl | rfl | rfl <;>
      simp (decide := true) only [ok_bn, ok_ld, ok_rd, ok_rt, ok_eq oB, k0, k1, k2, k3, k4, k5, k7, k9, e1, e2, e3, e4, e5, e6, hp, hs, if_true, if_false, true_and, and_true]
  obtain ⟨v, M, h1, rfl, rfl⟩ := hO
  exact h1
theorem asks_R {w np na a p s : Nat} {z e : Int32} {I0 J0 I J : MI} (hw : w = 2 ∨ w = 111) (h : TT w np na z e I0 J0 I J) (ha : a < na) (hp : I (w + 4) a = nn p) (hp6 : p < 6) (hs : I (w + 7) a = nn s) (hs10 : s < 10) : ∃ g, F_R_asks (nn a) J = some ((), bup J 229 g) ∧ ∀ j, j < 9 → g j = wV I w a p s (cntN (fun k => (!decide (I (w + 8) k = 0) && decide (I (w + 7) k = I (w + 7) a)) && !decide (k = a)) na) j := by
  obtain ⟨-, -, hR, hS, ⟨w7, -, w8, hna, -, -, -, -, -, wo, -⟩, -⟩ := id h
  obtain ⟨r0, r1, -, -, -, -, -, r7, r17, r23, r41, r59, r77⟩ := hR
  obtain ⟨s1, s2, s3, s4, s5, s6⟩ := hS
  have ha2 : a < 18 := by omega
  have oC : cntN (fun k => (decide (J 208 (41 + k) = 1) && decide (J 208 (23 + k) = J 208 (23 + a))) && !decide (k = a)) na = cntN (fun k => (!decide (I (w + 8) k = 0) && decide (I (w + 7) k = I (w + 7) a)) && !decide (k = a)) na := by
    have hcg : ∀ {c d : Nat → Bool} {n : Nat}, (∀ k, k < n → c k = d k) → cntN c n = cntN d n := by
      intro c d n
      induction n with
      | zero => intro _; rfl
      | succ n ih =>
        intro hq
        unfold cntN
        rw [ih (fun k hk => hq k (by omega)), hq n (by omega)]
    refine hcg fun k hk => ?_
    have hk2 : k < 18 := by omega
    rw [r41 k hk2, r23 k hk2, r23 a ha2, ← bit_eq (wo k hk2)]
  have oR : ∀ g, F_R_othersBy (nn a) (bup J 229 g) = some (nn (cntN (fun k => (!decide (I (w + 8) k = 0) && decide (I (w + 7) k = I (w + 7) a)) && !decide (k = a)) na), bup J 229 g) := fun g => by
    have q := others_R (J := bup J 229 g) (na := na) (a := a) (by rw [bup_ne _ _ (by decide)]; exact s2.trans w8) hna ha2
    rw [q, bup_ne J (a := 229) (b := 208) _ (by decide), oC]
  generalize cntN (fun k => (!decide (I (w + 8) k = 0) && decide (I (w + 7) k = I (w + 7) a)) && !decide (k = a)) na = o at *
  have oE : ∀ g (Q : Int32 → MI → Prop), Ok (F_R_othersBy (nn a)) (bup J 229 g) Q ↔ Q (nn o) (bup J 229 g) := fun g Q => ok_eq (oR g)
  have e1 : inR (nn a) 18 = true := inR_nn ha2 (by omega)
  have e2 : (nn a).toNatClampNeg = a := nn_nat (by omega)
  have e3 : inR (nn p) 6 = true := inR_nn hp6 (by omega)
  have e4 : (nn p).toNatClampNeg = p := nn_nat (by omega)
  have a23 : (23 : Int32) + nn a = nn (23 + a) := nn_add 23 a
  have i23 : inR (nn (23 + a)) 95 = true := inR_nn (by omega) (by omega)
  have t23 : (nn (23 + a)).toNatClampNeg = 23 + a := nn_nat (by omega)
  have a59 : (59 : Int32) + nn a = nn (59 + a) := nn_add 59 a
  have i59 : inR (nn (59 + a)) 95 = true := inR_nn (by omega) (by omega)
  have t59 : (nn (59 + a)).toNatClampNeg = 59 + a := nn_nat (by omega)
  have a7 : (7 : Int32) + nn s = nn (7 + s) := nn_add 7 s
  have i7 : inR (nn (7 + s)) 95 = true := inR_nn (by omega) (by omega)
  have t7 : (nn (7 + s)).toNatClampNeg = 7 + s := nn_nat (by omega)
  have a17 : (17 : Int32) + nn p = nn (17 + p) := nn_add 17 p
  have i17 : inR (nn (17 + p)) 95 = true := inR_nn (by omega) (by omega)
  have t17 : (nn (17 + p)).toNatClampNeg = 17 + p := nn_nat (by omega)
  have v1 : J 212 a = nn p := (s4 a ha2).trans hp
  have v2 : J 208 (23 + a) = nn s := (r23 a ha2).trans hs
  have v3 : J 213 a = I (w + 5) a := s5 a ha2
  have v4 : J 211 p = I (w + 2) p := s3 p hp6
  have v5 : J 208 (7 + s) = I (w + 1) s := r7 s hs10
  have v6 : J 208 (59 + a) = I (w + 9) a := r59 a ha2
  have v7 : J 208 (17 + p) = I (w + 3) p := r17 p hp6
  have hO : Ok (F_R_asks (nn a)) J fun _ K => ∃ g, K = bup J 229 g ∧ ∀ j, j < 9 → g j = wV I w a p s o j := by
    have n0 : (0 : Int32).toNatClampNeg = 0 := by decide
    have n1 : (1 : Int32).toNatClampNeg = 1 := by decide
    have n2 : (2 : Int32).toNatClampNeg = 2 := by decide
    have n3 : (3 : Int32).toNatClampNeg = 3 := by decide
    have n4 : (4 : Int32).toNatClampNeg = 4 := by decide
    have n5 : (5 : Int32).toNatClampNeg = 5 := by decide
    have n6 : (6 : Int32).toNatClampNeg = 6 := by decide
    have n7 : (7 : Int32).toNatClampNeg = 7 := by decide
    have n8 : (8 : Int32).toNatClampNeg = 8 := by decide
    unfold F_R_asks
    simp (decide := true) only [n0, n1, n2, n3, n4, n5, n6, n7, n8, ok_bn, ok_ld, ok_sr, ok_rt, e1, e2, e3, e4, a23, i23, t23, a59, i59, t59, a7, i7, t7, a17, i17, t17, v1, v2, v3, v4, v5, v6, v7, r0, r1, bup_ne, bup_eq, bup_bup, oE, true_and]
    refine ⟨_, rfl, fun j hj => ?_⟩
    have hj2 : j = 0 ∨ j = 1 ∨ j = 2 ∨ j = 3 ∨ j = 4 ∨ j = 5 ∨ j = 6 ∨ j = 7 ∨ j = 8 := by omega
    unfold wV
    rcases hj2 with rfl | rfl | rfl | rfl | rfl | rfl | rfl | rfl | rfl <;> simp (decide := true) only [upd_eq, upd_ne, if_true, if_false]
  obtain ⟨_, K, h1, g, rfl, h2⟩ := hO
  exact ⟨g, h1, h2⟩
theorem clamp {x : Int32} {l L : Nat} (hl : 0 < L) (hL : L < 10000) (e : l = L) : ∃ q, q ≤ L ∧ (if 0 < (if x < nn l then x else nn l) then (if x < nn l then x else nn l) else 0) = nn q ∧ ∀ J, F_R_held x 0 (nn L) J = some (nn q, J) := by
  subst e
  unfold F_R_held
  by_cases h0 : x < 0
  · refine ⟨0, by omega, ?_, fun J => by rw [ite_ap, if_pos h0]; rfl⟩
    have h1 : x < nn l := by
      rw [Int32.lt_iff_toInt_lt] at h0 ⊢
      rw [nn_toInt (by omega)]
      have e0 : (0 : Int32).toInt = 0 := rfl
      omega
    rw [if_pos h1, if_neg]
    · rfl
    · intro q
      rw [Int32.lt_iff_toInt_lt] at h0 q
      omega
  · by_cases h1 : nn l < x
    · refine ⟨l, Nat.le_refl _, ?_, fun J => by rw [ite_ap, if_neg h0, ite_ap, if_pos h1]; rfl⟩
      have h2 : ¬ x < nn l := by
        rw [Int32.lt_iff_toInt_lt] at h1 ⊢
        omega
      rw [if_neg h2, if_pos (show (0 : Int32) < nn l from (nn_lt (j := 0) (by omega) (by omega)).mpr hl)]
    · obtain ⟨q, hq, rfl⟩ := of_le (n := l) (by omega) h0 h1
      refine ⟨q, hq, ?_, fun J => by rw [ite_ap, if_neg h0, ite_ap, if_neg h1]; rfl⟩
      rw [min_nn (by omega) (by omega), Nat.min_eq_left hq]
      by_cases hz : q = 0
      · subst hz; rw [if_neg (by decide)]; rfl
      · rw [if_pos (show (0 : Int32) < nn q from (nn_lt (j := 0) (by omega) (by omega)).mpr (by omega))]
theorem clampK {x : Int32} {k : Nat} (hk : k < 3) : ∃ q, q ≤ (if k = 0 then 1000 else 99) ∧ (∀ I, K_Law_tells_122 (nn k) x I = some (nn q, I)) ∧ ∀ J, F_R_held x 0 (nn (if k = 0 then 1000 else 99)) J = some (nn q, J) := by
  by_cases h0 : k = 0
  · subst h0
    obtain ⟨q, q1, q2, q3⟩ := clamp (x := x) (l := 1000) (L := 1000) (by decide) (by decide) rfl
    refine ⟨q, q1, fun I => ?_, q3⟩
    unfold K_Law_tells_122
    rw [ite_ap, if_pos (show nn 0 = 0 from rfl), ← q2]; rfl
  · obtain ⟨q, q1, q2, q3⟩ := clamp (x := x) (l := 99) (L := 99) (by decide) (by decide) rfl
    rw [if_neg h0]
    refine ⟨q, q1, fun I => ?_, q3⟩
    unfold K_Law_tells_122
    rw [ite_ap, if_neg (show ¬ nn k = 0 from nn_ne (k := 0) (by omega) (by omega) h0), ← q2]; rfl
theorem tells_AR {I J : MI} {w a k : Nat} {d : Int32} {wv : Nat → Int32} (hk : k < 3) (hl : bLaw I 16 J) (h4 : I 17 0 = nn 4) (hU : F_Law_untold w (nn a) (nn k) I = some (d, I))
    (hA : ∀ K : MI, (∀ c, c ≠ 20 → K c = I c) → ∀ j, j < 9 → F_Law_wordWorth w (nn a) (nn (7 + j)) K = some (wv j, K))
    (hR : ∀ j, j < 9 → J 229 j = wv j) : Ok (F_Law_tells 16 w (nn a) (nn k)) I fun v I1 => Ok (F_R_lawTells (nn k) d (nn (if k = 0 then 1000 else 99))) J fun u J1 => u = v ∧ (∃ q, q ≤ (if k = 0 then 1000 else 99) ∧ v = nn q) ∧ (∀ c, c ≠ 20 → I1 c = I c) ∧ ∀ c, c ≠ 230 → J1 c = J c := by
  obtain ⟨n, hn, c1, c2, -, hL⟩ := hl
  have c1' : I 17 3 = nn n := c1
  have tA : ∀ {i c : Nat} (K : MI), (∀ c, c ≠ 20 → K c = I c) → i < n → c < 4 → F_Table_at 17 (nn i) (nn c) K = some (I 18 (4 * i + c), K) := fun {i c} K hK hi hc => by
    have e1 : K 17 = I 17 := hK _ (by decide)
    have e2 : K 18 = I 18 := hK _ (by decide)
    have hs : siz shT (17 + 1) = 64 := by decide +kernel
    have q := at_ok (I := K) (t := 17) (w := 4) (n := n) (i := i) (k := c) (by rw [e1]; exact h4) (by rw [e1]; exact c1') hi hc (by rw [hs]; omega) (by omega) (by decide) (by omega)
    rw [q, show 17 + 1 = 18 from rfl, e2, Nat.mul_comm]
  unfold F_Law_tells F_R_lawTells K_Law_tells_11 F_R_lineOf K_R_lineOf_2
  rw [ok_bn, ok_eq hU]
  refine bb (P := fun e I1 b J1 => ((∃ i, i < n ∧ e = .inl (nn i, I 18 (4 * i + 2)) ∧ b = nn i) ∨ (e = .inr () ∧ b = -1)) ∧ (∀ c, c ≠ 20 → I1 c = I c) ∧ ∀ c, c ≠ 230 → J1 c = J c) (lpN n (fun i x I1 y J1 => x = nn i ∧ y = nn i ∧ (∀ c, c ≠ 20 → I1 c = I c) ∧ ∀ c, c ≠ 230 → J1 c = J c) (fun i x I1 y J1 hi hP => ?_) (fun x I1 y J1 hP => ?_) (by omega) ⟨rfl, rfl, fun _ _ => rfl, fun _ _ => rfl⟩) (fun e I1 b J1 hP => ?_)
  · obtain ⟨rfl, rfl, f1, f2⟩ := hP
    obtain ⟨⟨v, hv, v1, v2⟩, f, m, t, hfm, hmt, ht4, l1, l2, l3, l4, l5, l6, lc, -, lt⟩ := hL i hi
    have g1 : nn i < nn n := (nn_lt (by omega) (by omega)).mpr hi
    have i1 : inR (nn i) 48 = true := inR_nn (by omega) (by omega)
    have t1 : (nn i).toNatClampNeg = i := nn_nat (by omega)
    have i0 : inR (0 : Int32) 2 = true := by decide
    have t0 : (0 : Int32).toNatClampNeg = 0 := by decide
    have r17 : I1 17 = I 17 := f1 17 (by decide)
    have r18 : J1 218 = J 218 := f2 218 (by decide)
    have r19 : J1 219 = J 219 := f2 219 (by decide)
    have r21 : J1 221 = J 221 := f2 221 (by decide)
    have r22 : J1 222 = J 222 := f2 222 (by decide)
    have a0 : F_Table_at 17 (nn i) 0 I1 = some (nn v, I1) := (tA (c := 0) I1 f1 hi (by decide)).trans (by rw [show I 18 (4 * i + 0) = nn v from v1])
    have a2 : F_Table_at 17 (nn i) 2 I1 = some (nn m, I1) := (tA (c := 2) I1 f1 hi (by decide)).trans (by rw [show I 18 (4 * i + 2) = nn m from l3])
    have a3 : F_Table_at 17 (nn i) 3 I1 = some (nn t, I1) := (tA (c := 3) I1 f1 hi (by decide)).trans (by rw [show I 18 (4 * i + 3) = nn t from l5])
    have l3' : I 18 (4 * i + 2) = nn m := l3
    have o1 : ¬ (1 : Int32) = 0 := by decide
    unfold B_Law_tells_11 B_R_lineOf_2
    by_cases hvk : v = k
    · subst hvk
      by_cases hmt2 : m = t
      · subst hmt2
        simp only [ok_bn, ok_rd, ok_ld, ok_ite, ok_rt, r17, c1', if_pos g1, ok_eq a0, ok_eq a2, ok_eq a3, i0, t0, i1, t1, r18, r19, r21, r22, c2, v2, l4, l6, if_true, if_neg o1, true_and, sd_r]
        exact ⟨Or.inl ⟨i, hi, by rw [l3'], rfl⟩, f1, f2⟩
      · have nmt : ¬ nn m = nn t := fun q => hmt2 ((nn_inj (by omega) (by omega)).mp q)
        have hworth := worth_AR (I := I1) (J := J1) (w := w) (a := a) (f := m) (m := t) (z := 1) (wv := wv) (by omega) ht4 (fun q h1 h2 => by
          rw [f2 223 (by decide), f2 224 (by decide), f1 19 (by decide)]
          exact lc q (by omega) h2) (by rw [f2 223 (by decide), f2 224 (by decide)]; exact lt (by omega)) (fun K hK j hj => hA K (fun c hc => (hK c hc).trans (f1 c hc)) j hj) (fun j hj => by rw [f2 229 (by decide)]; exact hR j hj)
        obtain ⟨u, I2, e1, u2, J2, e2, rfl, -, f3, f4⟩ := hworth
        simp only [ok_bn, ok_rd, ok_ld, ok_ite, ok_rt, r17, c1', if_pos g1, ok_eq a0, ok_eq a2, ok_eq a3, i0, t0, i1, t1, r18, r19, r21, r22, c2, v2, l4, l6, if_true, if_neg nmt, ok_eq e1, ok_eq e2, true_and, nn_s]
        have f5 : ∀ c, c ≠ 20 → I2 c = I c := fun c hc => (f3 c hc).trans (f1 c hc)
        have f6 : ∀ c, c ≠ 230 → J2 c = J c := fun c hc => (f4 c hc).trans (f2 c hc)
        by_cases hu : u2 = 0
        · simp only [if_pos hu, sd_l]
          exact ⟨trivial, trivial, f5, f6⟩
        · simp only [if_neg hu, if_neg o1, sd_r]
          exact ⟨Or.inl ⟨i, hi, by rw [l3'], rfl⟩, f5, f6⟩
    · have nvk : ¬ nn v = nn k := fun q => hvk ((nn_inj (by omega) (by omega)).mp q)
      simp only [ok_bn, ok_rd, ok_ld, ok_ite, ok_rt, r17, c1', if_pos g1, ok_eq a0, ok_eq a2, ok_eq a3, i0, t0, i1, t1, r18, r19, r21, r22, c2, v2, l4, l6, if_true, if_neg nvk, true_and, nn_s, sd_l]
      exact ⟨f1, f2⟩
  · obtain ⟨rfl, rfl, f1, f2⟩ := hP
    have g1 : ¬ nn n < nn n := fun q => by have := (nn_lt (by omega) (by omega)).mp q; omega
    have i0 : inR (0 : Int32) 2 = true := by decide
    have t0 : (0 : Int32).toNatClampNeg = 0 := by decide
    have r17 : I1 17 = I 17 := f1 17 (by decide)
    have r18 : J1 218 = J 218 := f2 218 (by decide)
    unfold B_Law_tells_11 B_R_lineOf_2
    simp only [ok_bn, ok_rd, ok_ld, ok_ite, ok_rt, r17, c1', if_neg g1, i0, t0, r18, c2, true_and, sd_r]
    exact ⟨Or.inr trivial, f1, f2⟩
  · obtain ⟨hP, f1, f2⟩ := hP
    rcases hP with ⟨i, hi, rfl, rfl⟩ | ⟨rfl, rfl⟩
    · obtain ⟨-, f, m, t, hfm, hmt, ht4, l1, l2, l3, l4, l5, l6, lc, ⟨y, hy, lf⟩, -⟩ := hL i hi
      have l3' : I 18 (4 * i + 2) = nn m := l3
      have i1 : inR (nn i) 48 = true := inR_nn (by omega) (by omega)
      have t1 : (nn i).toNatClampNeg = i := nn_nat (by omega)
      have n1 : ¬ nn i = -1 := fun q => by
        have h1 : nn i < 0 := by rw [q]; decide
        exact nn_neg (by omega) h1
      have a1 : F_Table_at 17 (nn i) 1 I1 = some (nn f, I1) := (tA (c := 1) I1 f1 hi (by decide)).trans (by rw [show I 18 (4 * i + 1) = nn f from l1])
      have hworth := worth_AR (I := I1) (J := J1) (w := w) (a := a) (f := f) (m := m) (z := y) (wv := wv) hfm (by omega) (fun q h1 h2 => by
        rw [f2 223 (by decide), f2 224 (by decide), f1 19 (by decide)]
        exact lc q h1 (by omega)) (by rw [f2 223 (by decide), f2 224 (by decide)]; exact lf) (fun K hK j hj => hA K (fun c hc => (hK c hc).trans (f1 c hc)) j hj) (fun j hj => by rw [f2 229 (by decide)]; exact hR j hj)
      obtain ⟨u, I2, e1, u2, J2, e2, rfl, -, f3, f4⟩ := hworth
      obtain ⟨q, q1, q2, q3⟩ := clampK (x := u2) hk
      have r20 : J1 220 = J 220 := f2 220 (by decide)
      have r21 : J1 221 = J 221 := f2 221 (by decide)
      unfold K_Law_tells_93
      simp only [ok_bn, ok_ld, ok_ite, ok_rt, l3', ok_eq a1, ok_eq e1, ok_eq (q2 I2), if_neg n1, i1, t1, r20, r21, l2, l4, ok_eq e2, ok_eq (q3 J2), true_and]
      exact ⟨⟨q, q1, rfl⟩, fun c hc => (f3 c hc).trans (f1 c hc), fun c hc => (f4 c hc).trans (f2 c hc)⟩
    · obtain ⟨q, q1, q2, q3⟩ := clampK (x := d) hk
      simp only [ok_bn, ok_ite, ok_rt, ok_eq (q2 I1), if_true, ok_eq (q3 J1)]
      exact ⟨trivial, ⟨q, q1, rfl⟩, f1, f2⟩
end SC34
