/-! simple calls -/
section SC2
theorem nlt {x : Int32} (n : Nat) (hn : n < 2 ^ 31) : (∃ k, k < n ∧ x = nn k) ∨ (x < 0 ∨ ¬ x < nn n) := by
  by_cases h0 : x < 0
  · exact Or.inr (Or.inl h0)
  · by_cases h1 : x < nn n
    · exact Or.inl (of_lt hn h0 h1)
    · exact Or.inr (Or.inr h1)
def isX (a f : Nat) (x : Int32) : M Int32 := if x < 0 then rt 0 else bn (rd a f) fun v => if x < v then rt 1 else rt 0
theorem isP_A (w : Nat) (x : Int32) : F_World_isPerson w x = isX w 7 x := rfl
theorem isA_A (w : Nat) (x : Int32) : F_World_isAlias w x = isX w 8 x := rfl
theorem isP_R (x : Int32) : F_R_isPerson x = isX 207 6 x := rfl
theorem isA_R (x : Int32) : F_R_isAlias x = isX 207 7 x := rfl
theorem isX_in {a f n k : Nat} {I : MI} (h : I a f = nn n) (hk : k < n) (hn : n < 2 ^ 31) : isX a f (nn k) I = some (1, I) := by
  unfold isX
  rw [ite_ap, if_neg (nn_neg (by omega)), bn_rd, h, ite_ap, if_pos ((nn_lt (by omega) hn).mpr hk)]
  rfl
theorem isX_out {a f n : Nat} {x : Int32} {I : MI} (h : I a f = nn n) (hx : x < 0 ∨ ¬ x < nn n) : isX a f x I = some (0, I) := by
  unfold isX
  by_cases h0 : x < 0
  · rw [ite_ap, if_pos h0]; rfl
  · rw [ite_ap, if_neg h0, bn_rd, h, ite_ap, if_neg (hx.resolve_left h0)]; rfl
theorem c_fault (x : Int32) : Call (F_A_fault x) (F_R_fault x) := by
  refine call_of fun I J hr => ?_
  obtain ⟨-, ⟨-, -, e1, e2⟩, -⟩ := id hr
  unfold F_A_fault F_R_fault
  by_cases h0 : x = 0
  · subst h0
    simp (decide := true) only [ok_bn, ok_wr, ok_rd, ok_rt, ok_ite, if_true, if_false, bup_eq, upd_ne, e1, true_and]
    exact rl_told hr
  · by_cases h1 : x = 1
    · subst h1
      simp (decide := true) only [ok_bn, ok_wr, ok_rd, ok_rt, ok_ite, if_true, if_false, bup_eq, upd_ne, e2, true_and]
      exact rl_told hr
    · simp (decide := true) only [ok_bn, ok_wr, ok_rd, ok_rt, ok_ite, if_neg h0, if_neg h1, true_and]
      exact rl_told hr
theorem rng0 {v w : Int32} : (¬ v < 0 ∧ ¬ w < v) ∨ (v < 0 ∨ w < v) := by
  by_cases h : v < 0
  · exact Or.inr (Or.inl h)
  · by_cases h2 : w < v
    · exact Or.inr (Or.inr h2)
    · exact Or.inl ⟨h, h2⟩
theorem c_end (x : Int32) : Call (F_A_end x) (F_R_end x) := by
  refine call_of fun I J hr => ?_
  obtain ⟨-, kt, -⟩ := id hr
  obtain ⟨⟨n, hn, h1, h2⟩, h3, h4, h5⟩ := kt
  unfold F_A_end F_R_end
  rcases rng0 (v := x) (w := nn n) with q | out
  · have wA : F_A_within x 0 (nn n) = rt 1 := wi_in q.1 q.2
    have wR : F_R_isIn x 0 (nn n) = rt 1 := ri_in q.1 q.2
    simp (decide := true) only [ok_bn, ok_wr, ok_rd, ok_rt, ok_ite, ok_gdZ, bup_eq, upd_ne, h1, h2, wA, wR, if_true, if_false, true_and]
    obtain ⟨k, a1, rfl⟩ := of_le (by omega) q.1 q.2
    refine rl_17 [93] [] [0, 14] hr (ui_bup (ui_refl _ _) rfl) (uj_fld (uj_fld (uj_refl _ _ _) rfl) rfl) (ut_bup (ut_refl _) rfl) rfl rfl rfl ?_ rfl
    exact ⟨⟨k, by omega, rfl, rfl⟩, h3, h4, h5⟩
  · have wA : F_A_within x 0 (nn n) = rt 0 := wi_out out
    have wR : F_R_isIn x 0 (nn n) = rt 0 := ri_out out
    simp (decide := true) only [ok_bn, ok_wr, ok_rd, ok_rt, ok_ite, ok_gdZ, bup_eq, upd_ne, h1, h2, wA, wR, if_true, if_false, true_and]
    exact rl_told hr
theorem dec_lt {x : Int32} {l : Nat} (hl : l ≤ 150) : (x < 0 ∨ nn l - 1 < x) ↔ (x < 0 ∨ ¬ x < nn l) := by
  have e1 : (nn l - 1).toInt = (l : Int) - 1 := by
    cases l with
    | zero => rfl
    | succ l =>
      have : nn (l + 1) - 1 = nn l := nn_sub (j := l + 1) (k := 1) (by omega)
      rw [this, nn_toInt (by omega)]
      omega
  have e2 : (nn l).toInt = l := nn_toInt (by omega)
  have e0 : (0 : Int32).toInt = 0 := rfl
  simp only [Int32.lt_iff_toInt_lt, e1, e2, e0]
  omega
theorem c_book (x y : Int32) : Call (F_A_book x y) (F_R_book x y) := by
  refine call_of fun I J hr => ?_
  obtain ⟨⟨k1, k2, -⟩, -⟩ := id hr
  obtain ⟨r1, r2, np, na, r3⟩ := k1
  obtain ⟨l, hl, e6⟩ := r3.2.2.2.2.2.1
  have e3 : J 208 3 = I 2 6 := r1.2.2.2.1
  have i3 : inR (3 : Int32) 95 = true := rfl
  have t3 : (3 : Int32).toNatClampNeg = 3 := rfl
  unfold F_A_book F_R_book F_Book_cell K_Book_cell_32
  rcases nlt (x := x) l (by omega) with ⟨k, hk, rfl⟩ | out
  · have a1 : ¬ nn k < 0 := nn_neg (by omega)
    have a2 : nn k < nn l := (nn_lt (by omega) (by omega)).mpr hk
    have a3 : nn k < 150 := (nn_lt (j := k) (k := 150) (by omega) (by decide)).mpr (by omega)
    have q : ¬ (nn k < 0 ∨ nn l - 1 < nn k) := by rw [dec_lt hl]; exact fun h => h.elim a1 (fun h => h a2)
    have wR : F_R_isIn (nn k) 0 (nn l - 1) = rt 1 := ri_in (fun h => q (Or.inl h)) (fun h => q (Or.inr h))
    rcases rng (v := y) 0 4 (by decide) (by decide) with ⟨m, -, b2, rfl⟩ | out2
    · have c1 : ¬ nn m < 0 := nn_neg (by omega)
      have c2 : nn m < 5 := (nn_lt (j := m) (k := 5) (by omega) (by decide)).mpr (by omega)
      have q2 := rng_in (a := 0) (b := 4) (by decide) (Nat.zero_le m) b2
      have wR2 : F_R_isIn (nn m) 0 4 = rt 1 := ri_in q2.1 q2.2
      have e7 : nn k * 5 + nn m = nn (5 * k + m) := by
        rw [show (5 : Int32) = nn 5 from rfl, nn_mul, nn_add, Nat.mul_comm]
      have e8 : 5 * nn k + nn m = nn (5 * k + m) := by
        rw [show (5 : Int32) = nn 5 from rfl, nn_mul, nn_add]
      have i7 : inR (nn (5 * k + m)) 750 = true := inR_nn (by omega) (by omega)
      have t7 : (nn (5 * k + m)).toNatClampNeg = 5 * k + m := nn_nat (by omega)
      have e9 : J 215 (5 * k + m) = I 14 (5 * k + m) := k2 _ (by omega)
      simp (decide := true) only [ok_bn, ok_wr, ok_rd, ok_rt, ok_ite, ok_ld, a1, a2, a3, c1, c2, wR, wR2, i3, t3, e3, e6, e7, e8, i7, t7, e9, bup_eq, bup_ne, if_true, if_false, true_and]
      exact rl_told hr
    · have wR2 : F_R_isIn y 0 4 = rt 0 := ri_out out2
      by_cases c1 : y < 0
      · simp (decide := true) only [ok_bn, ok_wr, ok_rd, ok_rt, ok_ite, ok_ld, a1, a2, a3, c1, wR, wR2, i3, t3, e3, e6, bup_eq, bup_ne, if_true, if_false, true_and]
        exact rl_told hr
      · have c2 : ¬ y < 5 := by
          have h := out2.resolve_left c1
          rw [Int32.lt_iff_toInt_lt] at h ⊢
          have e4 : (nn 4).toInt = 4 := rfl
          have e5 : (5 : Int32).toInt = 5 := rfl
          omega
        simp (decide := true) only [ok_bn, ok_wr, ok_rd, ok_rt, ok_ite, ok_ld, a1, a2, a3, c1, c2, wR, wR2, i3, t3, e3, e6, bup_eq, bup_ne, if_true, if_false, true_and]
        exact rl_told hr
  · have wR : F_R_isIn x 0 (nn l - 1) = rt 0 := ri_out ((dec_lt hl).mpr out)
    by_cases c1 : x < 0
    · simp (decide := true) only [ok_bn, ok_wr, ok_rd, ok_rt, ok_ite, ok_ld, c1, wR, i3, t3, e3, e6, bup_eq, bup_ne, if_true, if_false, true_and]
      exact rl_told hr
    · have c2 := out.resolve_left c1
      simp (decide := true) only [ok_bn, ok_wr, ok_rd, ok_rt, ok_ite, ok_ld, c1, c2, wR, i3, t3, e3, e6, bup_eq, bup_ne, if_true, if_false, true_and]
      exact rl_told hr
/-- a set, number by number -/
def setF (c : Nat → Bool) : Nat → Int32
  | 0 => 0
  | k + 1 => if c k = true then setF c k ||| (1 <<< (nn k &&& 31)) else setF c k
theorem setF_congr {c d : Nat → Bool} {n : Nat} (h : ∀ k, k < n → c k = d k) : setF c n = setF d n := by
  induction n with
  | zero => rfl
  | succ n ih =>
    unfold setF
    rw [ih (fun k hk => h k (by omega)), h n (by omega)]
theorem set_lp {body : Int32 × Int32 → M ((Int32 × Int32) ⊕ Int32)} {I : MI} {n : Nat} (c : Nat → Bool) (hn : n < 5000) (hs : ∀ k x, k < n → body (x, nn k) I = some (.inl (if c k = true then x ||| (1 <<< (nn k &&& 31)) else x, nn (k + 1)), I)) (he : ∀ x, body (x, nn n) I = some (.inr x, I)) : lp body FU (0, 0) I = some (setF c n, I) := by
  have h := lp_val (body := body) (I := I) (e := setF c n) (fun k => (setF c k, nn k)) n (fun k hk => by
    rw [hs k _ hk]
    rfl) (he _) FU (by rw [FU_eq]; exact hn)
  exact h
theorem nn_s (k : Nat) : nn k + 1 = nn (k + 1) := nn_add k 1
theorem struck_A {I : MI} {w na : Nat} (h8 : I w 8 = nn na) (hna : na ≤ 18) : F_World_struckOnes w I = some (setF (fun k => !decide (I (w + 10) k = 0)) na, I) := by
  unfold F_World_struckOnes K_World_struckOnes_4
  refine set_lp _ (by omega) (fun k x hk => ?_) (fun x => ?_)
  · unfold B_World_struckOnes_4
    rw [bn_rd, h8, ite_ap, if_pos ((nn_lt (by omega) (by omega)).mpr hk), bn_ld _ _ (inR_nn (by omega) (by omega)), nn_nat (by omega), ite_ap]
    by_cases hz : I (w + 10) k = 0
    · rw [if_pos hz, decide_eq_true hz, nn_s]; rfl
    · rw [if_neg hz, decide_eq_false hz, nn_s]; rfl
  · unfold B_World_struckOnes_4
    rw [bn_rd, h8, ite_ap, if_neg (by rw [nn_lt (by omega) (by omega)]; omega)]
    rfl
theorem isStruck_R {J : MI} {k : Nat} (hk : k < 18) : F_R_isStruck (nn k) J = some (if J 208 (77 + k) = 1 then 1 else 0, J) := by
  unfold F_R_isStruck
  rw [show (77 : Int32) = nn 77 from rfl, nn_add, bn_ld _ _ (inR_nn (by omega) (by omega)), nn_nat (by omega), ite_ap]
  by_cases h : J 208 (77 + k) = 1
  · rw [if_pos h, if_pos h]; rfl
  · rw [if_neg h, if_neg h]; rfl
theorem isOut_R {J : MI} {k : Nat} (hk : k < 18) : F_R_isOut (nn k) J = some (if J 208 (41 + k) = 1 then 1 else 0, J) := by
  unfold F_R_isOut
  rw [show (41 : Int32) = nn 41 from rfl, nn_add, bn_ld _ _ (inR_nn (by omega) (by omega)), nn_nat (by omega), ite_ap]
  by_cases h : J 208 (41 + k) = 1
  · rw [if_pos h, if_pos h]; rfl
  · rw [if_neg h, if_neg h]; rfl
theorem struck_R {J : MI} {na : Nat} (h8 : J 207 7 = nn na) (hna : na ≤ 18) : K_R_look_181 0 0 J = some (setF (fun k => decide (J 208 (77 + k) = 1)) na, J) := by
  unfold K_R_look_181
  refine set_lp _ (by omega) (fun k x hk => ?_) (fun x => ?_)
  · unfold B_R_look_181
    rw [bn_rd, h8, ite_ap, if_pos ((nn_lt (by omega) (by omega)).mpr hk), bn_of (isStruck_R (by omega)), ite_ap]
    by_cases hz : J 208 (77 + k) = 1
    · rw [if_pos hz, if_neg one_ne, decide_eq_true hz, nn_s]; rfl
    · rw [if_neg hz, if_pos rfl, decide_eq_false hz, nn_s]; rfl
  · unfold B_R_look_181
    rw [bn_rd, h8, ite_ap, if_neg (by rw [nn_lt (by omega) (by omega)]; omega)]
    rfl
theorem bit_eq {x : Int32} (h : x = 0 ∨ x = 1) : (!decide (x = 0)) = decide (x = 1) := by
  rcases h with rfl | rfl <;> rfl
theorem c_look (x : Int32) : Call (F_A_look x) (F_R_look x) := by
  refine call_of fun I J hr => ?_
  obtain ⟨⟨k1, -, k3, k4, k5, k6, -⟩, -, kp, -⟩ := id hr
  obtain ⟨r1, r2, np, na, r3⟩ := k1
  obtain ⟨u0, u1, u2, u3, u4, u5, u6, -, -, -, -, -, u12⟩ := r1
  obtain ⟨v1, v2, -⟩ := r2
  obtain ⟨n3, -, a3, b3, -⟩ := k3
  obtain ⟨n4, -, a4, b4, -⟩ := k4
  obtain ⟨n5, -, a5, b5, -⟩ := k5
  obtain ⟨n6, -, a6, b6, -⟩ := k6
  obtain ⟨nq, cq, -, -, -, a7, b7, -⟩ := kp
  obtain ⟨-, -, w8, w9, -, -, -, -, -, -, w10, -⟩ := r3
  have j7 : J 207 7 = nn na := v2.trans w8
  have sA := struck_A w8 w9
  have sR := struck_R (J := bup J 207 (upd (J 207) 0 0)) (na := na) j7 w9
  have se : setF (fun k => !decide (I (2 + 10) k = 0)) na = setF (fun k => decide (J 208 (77 + k) = 1)) na := setF_congr fun k hk => by
    rw [bit_eq (w10 k (by omega)), u12 k (by omega)]
  have i0 : inR (0 : Int32) 95 = true := rfl
  have i1 : inR (1 : Int32) 95 = true := rfl
  have i2 : inR (2 : Int32) 95 = true := rfl
  have i3 : inR (3 : Int32) 95 = true := rfl
  have i4 : inR (4 : Int32) 95 = true := rfl
  have i5 : inR (5 : Int32) 95 = true := rfl
  have i6 : inR (6 : Int32) 95 = true := rfl
  have i7 : inR (0 : Int32) 2 = true := rfl
  have t0 : (0 : Int32).toNatClampNeg = 0 := rfl
  have t1 : (1 : Int32).toNatClampNeg = 1 := rfl
  have t2 : (2 : Int32).toNatClampNeg = 2 := rfl
  have t3 : (3 : Int32).toNatClampNeg = 3 := rfl
  have t4 : (4 : Int32).toNatClampNeg = 4 := rfl
  have t5 : (5 : Int32).toNatClampNeg = 5 := rfl
  have t6 : (6 : Int32).toNatClampNeg = 6 := rfl
  have key : ∀ z, (z = 0 ∨ z = 1 ∨ z = 2 ∨ z = 3 ∨ z = 4 ∨ z = 5 ∨ z = 6 ∨ z = 7 ∨ z = 8 ∨ z = 9 ∨ z = 10 ∨ z = 11 ∨ z = 12 ∨ z = 13 ∨ z = 14) → x = z → Ok (F_A_look x) I fun v I1 => Ok (F_R_look x) J fun u J1 => u = v ∧ Rl I1 J1 := by
    intro z hz e
    subst e
    unfold F_A_look F_R_look
    rcases hz with rfl | rfl | rfl | rfl | rfl | rfl | rfl | rfl | rfl | rfl | rfl | rfl | rfl | rfl | rfl <;>
    simp (decide := true) only [ok_bn, ok_wr, ok_rd, ok_rt, ok_ite, ok_ld, if_true, if_false, bup_eq, bup_ne, upd_ne, i0, i1, i2, i3, i4, i5, i6, i7, t0, t1, t2, t3, t4, t5, t6, u0, u1, u2, u3, u4, u5, u6, v1, v2, a4, b4, a5, b5, a6, b6, a7, b7, true_and, ok_eq sA, ok_eq sR, se]
    all_goals first
      | exact rl_told hr
      | exact ⟨trivial, rl_told hr⟩
      | (refine ⟨?_, rl_told hr⟩; exact b3.trans a3.symm)
  by_cases h : x = 0 ∨ x = 1 ∨ x = 2 ∨ x = 3 ∨ x = 4 ∨ x = 5 ∨ x = 6 ∨ x = 7 ∨ x = 8 ∨ x = 9 ∨ x = 10 ∨ x = 11 ∨ x = 12 ∨ x = 13 ∨ x = 14
  · exact key x h rfl
  · simp only [not_or] at h
    obtain ⟨g0, g1, g2, g3, g4, g5, g6, g7, g8, g9, g10, g11, g12, g13, g14⟩ := h
    unfold F_A_look F_R_look
    simp (decide := true) only [ok_bn, ok_wr, ok_rd, ok_rt, ok_ite, if_neg g0, if_neg g1, if_neg g2, if_neg g3, if_neg g4, if_neg g5, if_neg g6, if_neg g7, if_neg g8, if_neg g9, if_neg g10, if_neg g11, if_neg g12, if_neg g13, if_neg g14, true_and]
    exact rl_told hr
end SC2
