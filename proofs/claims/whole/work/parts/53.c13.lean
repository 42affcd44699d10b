/-! net, least -/
section SC13
def cntN (c : Nat → Bool) : Nat → Nat
  | 0 => 0
  | k + 1 => if c k = true then cntN c k + 1 else cntN c k
theorem cntF_N (c : Nat → Bool) (n : Nat) : cntF c n = nn (cntN c n) ∧ cntN c n ≤ n := by
  induction n with
  | zero => exact ⟨rfl, Nat.le_refl _⟩
  | succ n ih =>
    unfold cntF cntN
    by_cases h : c n = true
    · rw [if_pos h, if_pos h, ih.1, nn_s]; exact ⟨rfl, by omega⟩
    · rw [if_neg h, if_neg h]; exact ⟨ih.1, by omega⟩
/-- the first that is greatest -/
def bstF (C : Nat → Nat) : Nat → Nat
  | 0 => 0
  | k + 1 => if C (bstF C k) < C (k + 1) then k + 1 else bstF C k
theorem bst_le (C : Nat → Nat) (k : Nat) : bstF C k ≤ k := by
  induction k with
  | zero => exact Nat.le_refl _
  | succ k ih => unfold bstF; split <;> omega
/-- the class's way: most and first -/
theorem bst_A {body : Int32 × Int32 × Int32 → M ((Int32 × Int32 × Int32) ⊕ (Int32 × Int32))} {I : MI} {C : Nat → Nat} {m : Int32} {n : Nat} (hn : n < 1000) (hC : ∀ k, C k < 1000) (h0 : body (m, 0, 0) I = some (.inl (nn (C 0), 0, 1), I)) (hs : ∀ k f, k < n → f < 1000 → body (nn (C f), nn f, nn (k + 1)) I = some (.inl (if nn (C f) < nn (C (k + 1)) then (nn (C (k + 1)), nn (k + 1), nn (k + 2)) else (nn (C f), nn f, nn (k + 2))), I)) (he : ∀ a b, body (a, b, nn (n + 1)) I = some (.inr (a, b), I)) : lp body FU (m, 0, 0) I = some ((nn (C (bstF C n)), nn (bstF C n)), I) := by
  refine lp_val (body := body) (fun k => match k with
    | 0 => (m, 0, 0)
    | k + 1 => (nn (C (bstF C k)), nn (bstF C k), nn (k + 1))) (n + 1) (fun k hk => ?_) (he _ _) FU (by rw [FU_eq]; omega)
  cases k with
  | zero => exact h0
  | succ k =>
    have hb := bst_le C k
    show body (nn (C (bstF C k)), nn (bstF C k), nn (k + 1)) I = some (Sum.inl (nn (C (bstF C (k + 1))), nn (bstF C (k + 1)), nn (k + 1 + 1)), I)
    rw [hs k (bstF C k) (by omega) (by omega)]
    have q1 := hC (bstF C k)
    have q2 := hC (k + 1)
    conv => rhs; unfold bstF
    by_cases q : C (bstF C k) < C (k + 1)
    · rw [if_pos ((nn_lt (by omega) (by omega)).mpr q), if_pos q]
    · rw [if_neg (by rw [nn_lt (by omega) (by omega)]; exact q), if_neg q]
theorem bst_R {body : Int32 × Int32 → M ((Int32 × Int32) ⊕ Int32)} {I : MI} {C : Nat → Nat} {n : Nat} (hn : n < 1000) (hC : ∀ k, C k < 1000) (hs : ∀ k f, k < n → f ≤ k → body (nn f, nn (k + 1)) I = some (.inl (if nn (C f) < nn (C (k + 1)) then (nn (k + 1), nn (k + 2)) else (nn f, nn (k + 2))), I)) (he : ∀ a, body (a, nn (n + 1)) I = some (.inr a, I)) : lp body FU (0, 1) I = some (nn (bstF C n), I) := by
  refine lp_val (body := body) (fun k => (nn (bstF C k), nn (k + 1))) n (fun k hk => ?_) (he _) FU (by rw [FU_eq]; omega)
  have hb := bst_le C k
  rw [hs k (bstF C k) hk hb]
  have q1 := hC (bstF C k)
  have q2 := hC (k + 1)
  conv => rhs; unfold bstF
  by_cases q : C (bstF C k) < C (k + 1)
  · rw [if_pos ((nn_lt (by omega) (by omega)).mpr q), if_pos q]
  · rw [if_neg (by rw [nn_lt (by omega) (by omega)]; exact q), if_neg q]
/-! net -/
def netC (I : MI) (na w s : Nat) : Nat := cntN (fun a => decide (I 12 a = 0) && (!decide (I 9 a < nn s) && !decide (nn (s + w - 1) < I 9 a))) na
theorem net_A {I : MI} {na w s : Nat} {b c d : Int32} (h8 : I 2 8 = nn na) (hna : na ≤ 18) (hw1 : 1 ≤ w) (hs : s + w ≤ 10) : lp (B_Port_bestCatch_23 (nn w) b c d (nn s)) FU (0, 0) I = some (nn (netC I na w s), I) := by
  unfold netC
  rw [← (cntF_N _ na).1]
  refine cnt_lp _ (by omega) (fun k x hk => ?_) (fun x => ?_)
  · unfold B_Port_bestCatch_23
    have e : nn s + nn w - 1 = nn (s + w - 1) := by rw [nn_add, show (1 : Int32) = nn 1 from rfl, nn_sub (by omega)]
    rw [bn_rd, h8, ite_ap, if_pos ((nn_lt (by omega) (by omega)).mpr hk), bn_ld _ _ (inR_nn (by omega) (by omega)), nn_nat (by omega), ite_ap, e, nn_s, Int32.add_zero]
    by_cases z : I 12 k = 0
    · rw [if_pos z, decide_eq_true z, if_neg one_ne, bn_ld _ _ (inR_nn (by omega) (by omega)), nn_nat (by omega)]
      by_cases p : I 9 k < nn s
      · rw [wi_out (Or.inl p), bn_rt, if_pos rfl, decide_eq_true p]; rfl
      · by_cases p2 : nn (s + w - 1) < I 9 k
        · rw [wi_out (Or.inr p2), bn_rt, if_pos rfl, decide_eq_true p2, decide_eq_false p]; rfl
        · rw [wi_in p p2, bn_rt, if_neg one_ne, decide_eq_false p2, decide_eq_false p]; rfl
    · rw [if_neg z, decide_eq_false z, if_pos rfl]; rfl
  · unfold B_Port_bestCatch_23
    rw [bn_rd, h8, ite_ap, if_neg (by rw [nn_lt (by omega) (by omega)]; omega)]
    rfl
theorem net_R {I J : MI} {na w s : Nat} (h8 : J 207 7 = nn na) (hna : na ≤ 18) (hw1 : 1 ≤ w) (hs : s + w ≤ 10) (h77 : ∀ k, k < 18 → J 208 (77 + k) = I 12 k) (h01 : ∀ k, k < 18 → I 12 k = 0 ∨ I 12 k = 1) (h23 : ∀ k, k < 18 → J 208 (23 + k) = I 9 k) : F_R_netAt (nn s) (nn w) J = some (nn (netC I na w s), J) := by
  unfold F_R_netAt K_R_netAt_5 netC
  rw [← (cntF_N _ na).1]
  refine cnt_lp _ (by omega) (fun k x hk => ?_) (fun x => ?_)
  · unfold B_R_netAt_5
    have e : nn s + nn w - 1 = nn (s + w - 1) := by rw [nn_add, show (1 : Int32) = nn 1 from rfl, nn_sub (by omega)]
    rw [bn_rd, h8, ite_ap, if_pos ((nn_lt (by omega) (by omega)).mpr hk), bn_of (isStruck_R (by omega)), ite_ap, e, nn_s, h77 k (by omega), show (23 : Int32) + nn k = nn (23 + k) from nn_add 23 k]
    rcases h01 k (by omega) with z | z
    · rw [z, if_neg (show ¬ (0 : Int32) = 1 by decide), if_pos rfl, bn_ld _ _ (inR_nn (by omega) (by omega)), nn_nat (by omega), h23 k (by omega)]
      by_cases p : I 9 k < nn s
      · rw [ri_out (Or.inl p), bn_rt, if_pos rfl, decide_eq_true p]; rfl
      · by_cases p2 : nn (s + w - 1) < I 9 k
        · rw [ri_out (Or.inr p2), bn_rt, if_pos rfl, decide_eq_true p2, decide_eq_false p]; rfl
        · rw [ri_in p p2, bn_rt, if_neg one_ne, decide_eq_false p2, decide_eq_false p]; rfl
    · rw [z, if_pos rfl, if_neg one_ne]; rfl
  · unfold B_R_netAt_5
    rw [bn_rd, h8, ite_ap, if_neg (by rw [nn_lt (by omega) (by omega)]; omega)]
    rfl
theorem net_lt (I : MI) {na : Nat} (h : na ≤ 18) (w s : Nat) : netC I na w s < 1000 := by
  have := (cntF_N (fun a => decide (I 12 a = 0) && (!decide (I 9 a < nn s) && !decide (nn (s + w - 1) < I 9 a))) na).2
  unfold netC
  omega
theorem m1_lt {k : Nat} (hk : k < 2 ^ 31) : (-1 : Int32) < nn k := by
  rw [Int32.lt_iff_toInt_lt, nn_toInt hk]
  have : (-1 : Int32).toInt = -1 := rfl
  omega
theorem c_net (x y : Int32) : Call (F_A_net x y) (F_R_net x y) := by
  refine call_of fun I J hr => ?_
  obtain ⟨⟨k1, -⟩, -⟩ := id hr
  obtain ⟨r1, r2, np, na, r3⟩ := k1
  obtain ⟨w7, h6, w8, h18, w4, w6, wp, wh, wi, wo, ws, wu⟩ := id r3
  obtain ⟨b1, b2, -⟩ := id r2
  obtain ⟨-, -, -, -, -, -, -, -, -, u23, -, -, u77⟩ := id r1
  have j7 : J 207 7 = nn na := b2.trans w8
  unfold F_A_net F_R_net F_Port_bestCatch K_Port_bestCatch_8 K_Port_bestCatch_128 K_R_net_33 K_R_net_67
  rcases rng (v := x) 1 10 (by decide) (by decide) with ⟨w, w1, w10, rfl⟩ | out
  · have q := rng_in (a := 1) (b := 10) (by decide) w1 w10
    have wA : F_A_within (nn w) 1 10 = rt 1 := wi_in q.1 q.2
    have wR : F_R_isIn (nn w) 1 10 = rt 1 := ri_in q.1 q.2
    have lA : ∀ b, lp (B_Port_bestCatch_8 (nn w) b) FU (-1, 0, 0) I = some ((nn (netC I na w (bstF (netC I na w) (10 - w))), nn (bstF (netC I na w) (10 - w))), I) := by
      intro b
      refine bst_A (n := 10 - w) (by omega) (net_lt I h18 w) ?_ (fun k f hk hf => ?_) (fun a c => ?_)
      · unfold B_Port_bestCatch_8 K_Port_bestCatch_23 K_Port_bestCatch_109
        have e : ¬ (10 : Int32) < 0 + nn w := by rw [Int32.zero_add, show (10 : Int32) = nn 10 from rfl, nn_lt (by decide) (by omega)]; omega
        have l := net_A (b := b) (c := -1) (d := 0) (s := 0) w8 h18 w1 (by omega)
        have n0 := net_lt I h18 w 0
        rw [ite_ap, if_neg e, bn_of (show lp (B_Port_bestCatch_23 (nn w) b (-1) 0 0) FU (0, 0) I = _ from l), ite_ap, if_pos (m1_lt (by omega))]
        rfl
      · unfold B_Port_bestCatch_8 K_Port_bestCatch_23 K_Port_bestCatch_109
        have e : ¬ (10 : Int32) < nn (k + 1) + nn w := by rw [nn_add, show (10 : Int32) = nn 10 from rfl, nn_lt (by decide) (by omega)]; omega
        have l := net_A (b := b) (c := nn (netC I na w f)) (d := nn f) (s := k + 1) w8 h18 w1 (by omega)
        dsimp only
        rw [ite_ap, if_neg e, bn_of l, ite_ap, nn_s]
        by_cases q : nn (netC I na w f) < nn (netC I na w (k + 1))
        · rw [if_pos q, if_pos q]; rfl
        · rw [if_neg q, if_neg q]; rfl
      · unfold B_Port_bestCatch_8
        have e : (10 : Int32) < nn (10 - w + 1) + nn w := by rw [nn_add, show (10 : Int32) = nn 10 from rfl, nn_lt (by decide) (by omega)]; omega
        rw [ite_ap, if_pos e]
        rfl
    have cR : ∀ s, s + w ≤ 10 → F_R_netAt (nn s) (nn w) (bup J 207 (upd (J 207) 0 0)) = some (nn (netC I na w s), bup J 207 (upd (J 207) 0 0)) := fun s hs => net_R (by exact j7) h18 w1 hs u77 ws u23
    have lR : ∀ b, lp (B_R_net_33 (nn w) b) FU (0, 1) (bup J 207 (upd (J 207) 0 0)) = some (nn (bstF (netC I na w) (10 - w)), bup J 207 (upd (J 207) 0 0)) := by
      intro b
      refine bst_R (n := 10 - w) (by omega) (net_lt I h18 w) (fun k f hk hf => ?_) (fun a => ?_)
      · unfold B_R_net_33
        have e : ¬ (10 : Int32) < nn (k + 1) + nn w := by rw [nn_add, show (10 : Int32) = nn 10 from rfl, nn_lt (by decide) (by omega)]; omega
        dsimp only
        rw [ite_ap, if_neg e, bn_of (cR (k + 1) (by omega)), bn_of (cR f (by omega)), ite_ap, nn_s]
        by_cases q : nn (netC I na w f) < nn (netC I na w (k + 1))
        · rw [if_pos q, if_pos q]; rfl
        · rw [if_neg q, if_neg q]; rfl
      · unfold B_R_net_33
        have e : (10 : Int32) < nn (10 - w + 1) + nn w := by rw [nn_add, show (10 : Int32) = nn 10 from rfl, nn_lt (by decide) (by omega)]; omega
        rw [ite_ap, if_pos e]
        rfl
    have hb := bst_le (netC I na w) (10 - w)
    have cB := cR (bstF (netC I na w) (10 - w)) (by omega)
    rcases rng (v := y) 0 1 (by decide) (by decide) with ⟨c, -, c2, rfl⟩ | out3
    · have q3 := rng_in (a := 0) (b := 1) (by decide) (Nat.zero_le c) c2
      have wA3 : F_A_within (nn c) 0 1 = rt 1 := wi_in q3.1 q3.2
      have wR3 : F_R_isIn (nn c) 0 1 = rt 1 := ri_in q3.1 q3.2
      match c, c2 with
      | 0, _ =>
        simp (decide := true) only [ok_bn, ok_wr, ok_rt, ok_ite, wA, wR, wA3, wR3, ok_eq (lA 0), ok_eq (lR (nn 0)), ok_eq cB, if_true, if_false, true_and]
        exact rl_told hr
      | 1, _ =>
        simp (decide := true) only [ok_bn, ok_wr, ok_rt, ok_ite, wA, wR, wA3, wR3, ok_eq (lA 1), ok_eq (lR (nn 1)), if_true, if_false, true_and]
        exact rl_told hr
      | c + 2, h => omega
    · have wA3 : F_A_within y 0 1 = rt 0 := wi_out out3
      have wR3 : F_R_isIn y 0 1 = rt 0 := ri_out out3
      simp (decide := true) only [ok_bn, ok_wr, ok_rt, ok_ite, wA, wR, wA3, wR3, if_true, if_false, true_and]
      exact rl_told hr
  · have wA : F_A_within x 1 10 = rt 0 := wi_out out
    have wR : F_R_isIn x 1 10 = rt 0 := ri_out out
    simp (decide := true) only [ok_bn, ok_wr, ok_rt, ok_ite, wA, wR, if_true, if_false, true_and]
    exact rl_told hr
end SC13
