/-! beds: the first place, by both -/
section BE97
theorem own_no {p : Nat} (h : ¬ p < 10) : own p = -1 := if_neg h
theorem own_in {p : Nat} (h : p < 10) : own p = nn p := if_pos h
theorem own_m1 {p : Nat} : own p = -1 ↔ ¬ p < 10 := by
  constructor
  · intro q h
    rw [own_in h] at q
    have h1 : nn p < 0 := by rw [q]; decide
    exact nn_neg (by omega) h1
  · exact own_no
def bst (c : Nat → Bool) (b : Nat) : Nat → Nat
  | 0 => 10
  | k + 1 => if c (b - 1 - k) = true then b - 1 - k else bst c b k
theorem bst_is {c : Nat → Bool} {b : Nat} (hb : b ≤ 10) : ∀ k, k ≤ b → (bst c b k < b ∧ b - k ≤ bst c b k ∧ c (bst c b k) = true ∧ ∀ j, b - k ≤ j → j < bst c b k → c j = false) ∨ (bst c b k = 10 ∧ ∀ j, b - k ≤ j → j < b → c j = false) := by
  intro k
  induction k with
  | zero => intro _; exact Or.inr ⟨rfl, fun j h1 h2 => absurd h1 (by omega)⟩
  | succ k ih =>
    intro hk
    unfold bst
    cases hc : c (b - 1 - k) with
    | true => rw [if_pos rfl]; exact Or.inl ⟨by omega, by omega, hc, fun j h1 h2 => absurd h1 (by omega)⟩
    | false =>
      rw [if_neg (by decide)]
      have e : ∀ j, b - (k + 1) ≤ j → j = b - 1 - k ∨ b - k ≤ j := fun j h => by omega
      rcases ih (by omega) with ⟨h1, h2, h3, h4⟩ | ⟨h1, h2⟩
      · refine Or.inl ⟨h1, by omega, h3, fun j j1 j2 => ?_⟩
        rcases e j j1 with e | e
        · rw [e]; exact hc
        · exact h4 j e j2
      · refine Or.inr ⟨h1, fun j j1 j2 => ?_⟩
        rcases e j j1 with e | e
        · rw [e]; exact hc
        · exact h2 j e j2
theorem bst_ls {c : Nat → Bool} {b : Nat} (hb : b ≤ 10) (h : ∀ j, c j = true → j < b) : bst c b b = lsT c 10 := by
  refine LT_one ?_ (lsT_LT c)
  rcases bst_is (c := c) hb b (Nat.le_refl _) with ⟨h1, h2, h3, h4⟩ | ⟨h1, h2⟩
  · exact Or.inl ⟨by omega, h3, fun j hj => h4 j (by omega) hj⟩
  · refine Or.inr ⟨h1, fun j hj => ?_⟩
    cases hc : c j with
    | false => rfl
    | true => rw [h2 j (by omega) (h j hc)] at hc; cases hc
theorem cc_lt {J0 : MI} {n b i S j : Nat} (h : ccB (alB J0 b) b n i S j = true) : j < b := by
  have h1 := (and_mp (and_mp h).1).1
  unfold alB at h1
  exact of_decide_eq_true (and_mp h1).1
theorem alB_lt {J0 : MI} {b : Nat} : ∀ l j, alB J0 b l j = true → j < b := fun l j h => by
  unfold alB at h
  exact of_decide_eq_true (and_mp h).1
theorem first_R {J0 J : MI} {n b i t S : Nat} (hn : n ≤ 8) (hb : b ≤ 8) (hi : i < n) (hS : S < 2 ^ b) (h7 : J0 207 63 = nn b) (h : BT J0 n b 0 J) : lp (B_R_bedOf_20 (nn t) (nn S) (nn i)) FU (-1, nn b - 1) J = some (own (lsT (ccB (alB J0 b) b n i S) 10), J) := by
  have p2 : 2 ^ b ≤ 256 := by
    have : (2 : Nat) ^ b ≤ 2 ^ 8 := Nat.pow_le_pow_right (by decide) hb
    exact this
  rw [← bst_ls (by omega) (fun j hj => cc_lt hj)]
  have st : ((-1 : Int32), nn b - 1) = (own (bst (ccB (alB J0 b) b n i S) b 0), if 0 < b then nn (b - 1 - 0) else -1) := by
    by_cases h0 : 0 < b
    · rw [if_pos h0]
      have e : nn b - 1 = nn (b - 1 - 0) := nn_sub (j := b) (k := 1) (by omega)
      rw [e]; rfl
    · rw [if_neg h0, show b = 0 by omega]; rfl
  rw [st]
  refine lp_val (fun k => (own (bst (ccB (alB J0 b) b n i S) b k), if k < b then nn (b - 1 - k) else -1)) b (fun k hk => ?_) ?_ FU (by rw [FU_eq]; omega)
  · have nx : nn (b - 1 - k) + (-1 : Int32) = if k + 1 < b then nn (b - 1 - (k + 1)) else -1 := by
      by_cases h1 : k + 1 < b
      · rw [if_pos h1, pm1 (by omega)]; congr 1
      · rw [if_neg h1, show b - 1 - k = 0 by omega]; decide
    have sb : bst (ccB (alB J0 b) b n i S) b (k + 1) = if ccB (alB J0 b) b n i S (b - 1 - k) = true then b - 1 - k else bst (ccB (alB J0 b) b n i S) b k := rfl
    have g0 : ¬ nn (b - 1 - k) < 0 := nn_neg (by omega)
    have jb : b - 1 - k < b := by omega
    generalize hj : b - 1 - k = j at *
    have hs : F_R_has (nn S) (nn j) = rt (if S.testBit j = true then 1 else 0) := has_nn (by omega) (by omega)
    have lj : lieB J i j = lieB J0 i j := by
      unfold lieB; rw [h.1 244 (by decide), h.1 245 (by decide), h.1 246 (by decide)]
    have sl := lie_R (J := J) (show i < 8 by omega) (show j < 8 by omega)
    rw [lj] at sl
    have pj : S ||| 2 ^ j < 2 ^ b := Nat.or_lt_two_pow hS (Nat.pow_lt_pow_right (by decide) jb)
    have jb2 : 2 ^ j < 2 ^ b := Nat.pow_lt_pow_right (by decide) jb
    have eo : nn S ||| ((1 : Int32) <<< (nn j &&& 31)) = nn (S ||| 2 ^ j) := by rw [shl_nn (by omega), or_nn (by omega) (by omega)]
    have ei : (256 : Int32) * nn (i + 1) + nn (S ||| 2 ^ j) = nn (256 * (i + 1) + (S ||| 2 ^ j)) := (congrArg (fun x => x + nn (S ||| 2 ^ j)) (nn_mul 256 (i + 1))).trans (nn_add _ _)
    have ir : inR (nn (256 * (i + 1) + (S ||| 2 ^ j))) 2304 = true := inR_nn (by omega) (by omega)
    have it : (nn (256 * (i + 1) + (S ||| 2 ^ j))).toNatClampNeg = 256 * (i + 1) + (S ||| 2 ^ j) := nn_nat (by omega)
    have ev := h.2 (i + 1) (S ||| 2 ^ j) (by omega) (by omega) pj
    have fi : (256 : Int32) * nn i + nn S = nn (256 * i + S) := (congrArg (fun x => x + nn S) (nn_mul 256 i)).trans (nn_add _ _)
    have fr : inR (nn (256 * i + S)) 2304 = true := inR_nn (by omega) (by omega)
    have ft : (nn (256 * i + S)).toNatClampNeg = 256 * i + S := nn_nat (by omega)
    have fv := h.2 i S (by omega) (by omega) hS
    have m1 := mx_le (al := alB J0 b) (b := b) (n - (i + 1)) (i + 1) (S ||| 2 ^ j)
    have m2 := mx_le (al := alB J0 b) (b := b) (n - i) i S
    have ab : alB J0 b i j = lieB J0 i j := by unfold alB; rw [decide_eq_true jb, Bool.true_and]
    have hO : Ok (B_R_bedOf_20 (nn t) (nn S) (nn i) (own (bst (ccB (alB J0 b) b n i S) b k), nn j)) J fun r K => r = .inl (own (if ccB (alB J0 b) b n i S j = true then j else bst (ccB (alB J0 b) b n i S) b k), nn j + (-1 : Int32)) ∧ K = J := by
      unfold B_R_bedOf_20 ccB
      rw [ab]
      simp only [ok_ite, if_neg g0, ok_bn, hs, ok_rt]
      cases hS2 : S.testBit j with
      | true => simp (decide := true) only [if_true, if_false, Bool.not_true, Bool.and_false, Bool.false_and, and_self]
      | false =>
        cases hl : lieB J0 i j with
        | false =>
          rw [hl] at sl
          simp (decide := true) only [if_true, if_false, ok_eq sl, Bool.not_false, Bool.and_true, Bool.false_and, and_self]
        | true =>
          rw [hl] at sl
          have e1 : (1 : Int32) + nn (mx (alB J0 b) b (n - (i + 1)) (i + 1) (S ||| 2 ^ j)) = nn (1 + mx (alB J0 b) b (n - (i + 1)) (i + 1) (S ||| 2 ^ j)) := nn_add 1 _
          by_cases hq : 1 + mx (alB J0 b) b (n - (i + 1)) (i + 1) (S ||| 2 ^ j) = mx (alB J0 b) b (n - i) i S
          · have hq2 : nn (1 + mx (alB J0 b) b (n - (i + 1)) (i + 1) (S ||| 2 ^ j)) = nn (mx (alB J0 b) b (n - i) i S) := congrArg nn hq
            simp (decide := true) only [if_true, if_false, ok_eq sl, ok_bn, ok_ld, nn_s, eo, ei, ir, it, ev, fi, fr, ft, fv, e1, if_pos hq2, decide_eq_true hq, ok_rt, Bool.not_false, Bool.and_true, true_and, own_in (show j < 10 by omega), and_self]
          · have hq2 : ¬ nn (1 + mx (alB J0 b) b (n - (i + 1)) (i + 1) (S ||| 2 ^ j)) = nn (mx (alB J0 b) b (n - i) i S) := fun q => hq ((nn_inj (by omega) (by omega)).mp q)
            simp (decide := true) only [if_true, if_false, ok_eq sl, ok_bn, ok_ld, nn_s, eo, ei, ir, it, ev, fi, fr, ft, fv, e1, if_neg hq2, decide_eq_false hq, ok_rt, Bool.not_false, Bool.and_true, Bool.and_false, true_and, and_self]
    rw [if_pos hk]
    obtain ⟨r, K, q1, rfl, rfl⟩ := hO
    rw [nx, ← sb] at q1
    exact q1
  · rw [if_neg (Nat.lt_irrefl b)]
    have hO : Ok (B_R_bedOf_20 (nn t) (nn S) (nn i) (own (bst (ccB (alB J0 b) b n i S) b b), -1)) J fun r K => r = .inr (own (bst (ccB (alB J0 b) b n i S) b b)) ∧ K = J := by
      have g0 : (-1 : Int32) < 0 := by decide
      unfold B_R_bedOf_20
      simp only [ok_ite, if_pos g0, ok_rt, and_self]
    obtain ⟨r, K, q1, rfl, rfl⟩ := hO
    exact q1
theorem sq_s {al : Nat → Nat → Bool} {b n k : Nat} : sqS al b n (k + 1) = nxS al b n k (sqS al b n k) := rfl
theorem bedOf_R {J0 J : MI} {n b t : Nat} (hn : n ≤ 8) (hb : b ≤ 8) (ht : t < n) (h7 : J0 207 63 = nn b) (h : BT J0 n b 0 J) : F_R_bedOf (nn t) J = some (own (lsT (ccB (alB J0 b) b n t (sqS (alB J0 b) b n t)) 10), J) := by
  have p2 : 2 ^ b ≤ 256 := by
    have : (2 : Nat) ^ b ≤ 2 ^ 8 := Nat.pow_le_pow_right (by decide) hb
    exact this
  have e7 : J 207 63 = nn b := by rw [h.1 207 (by decide)]; exact h7
  unfold F_R_bedOf K_R_bedOf_4
  refine lp_val (fun k => (nn (sqS (alB J0 b) b n k), nn k)) t (fun k hk => ?_) ?_ FU (by rw [FU_eq]; omega)
  · have hs := sq_lt (b := b) (n := n) (alB_lt (J0 := J0)) k
    have fR := first_R (J0 := J0) (J := J) (t := t) (i := k) hn hb (by omega) hs h7 h
    have g1 : ¬ nn t < nn k := fun q => by have := (nn_lt (by omega) (by omega)).mp q; omega
    have g2 : ¬ nn k = nn t := nn_ne (by omega) (by omega) (by omega)
    have sn : sqS (alB J0 b) b n (k + 1) = if lsT (ccB (alB J0 b) b n k (sqS (alB J0 b) b n k)) 10 < 10 then sqS (alB J0 b) b n k ||| 2 ^ lsT (ccB (alB J0 b) b n k (sqS (alB J0 b) b n k)) 10 else sqS (alB J0 b) b n k := rfl
    show B_R_bedOf_4 (nn t) (nn (sqS (alB J0 b) b n k), nn k) J = some (.inl (nn (sqS (alB J0 b) b n (k + 1)), nn (k + 1)), J)
    rw [sn]
    generalize lsT (ccB (alB J0 b) b n k (sqS (alB J0 b) b n k)) 10 = p at *
    generalize sqS (alB J0 b) b n k = Sk at *
    have hO : Ok (B_R_bedOf_4 (nn t) (nn Sk, nn k)) J fun r K => r = .inl (nn (if p < 10 then Sk ||| 2 ^ p else Sk), nn (k + 1)) ∧ K = J := by
      unfold B_R_bedOf_4 K_R_bedOf_20 K_R_bedOf_91
      simp only [ok_ite, if_neg g1, ok_bn, ok_rd, e7, ok_eq fR, if_neg g2, ok_rt, nn_s]
      by_cases hq : p < 10
      · have q1 : ¬ nn p = -1 := fun q => own_m1.mp ((own_in hq).trans q) hq
        have pw : 2 ^ p < 2 ^ 10 := Nat.pow_lt_pow_right (by decide) hq
        simp only [if_neg q1, if_pos hq, own_in hq, shl_nn (show p < 31 by omega), or_nn (show Sk < 2 ^ 31 by omega) (show 2 ^ p < 2 ^ 31 by omega), and_self]
      · simp only [if_pos (own_m1.mpr hq), if_neg hq, and_self]
    obtain ⟨r, K, q1, rfl, rfl⟩ := hO
    exact q1
  · have hs := sq_lt (b := b) (n := n) (alB_lt (J0 := J0)) t
    have fR := first_R (J0 := J0) (J := J) (t := t) (i := t) hn hb ht hs h7 h
    have g1 : ¬ nn t < nn t := fun q => by have := (nn_lt (by omega) (by omega)).mp q; omega
    have hO : Ok (B_R_bedOf_4 (nn t) (nn (sqS (alB J0 b) b n t), nn t)) J fun r K => r = .inr (own (lsT (ccB (alB J0 b) b n t (sqS (alB J0 b) b n t)) 10)) ∧ K = J := by
      unfold B_R_bedOf_4 K_R_bedOf_20 K_R_bedOf_91
      simp only [ok_ite, if_neg g1, ok_bn, ok_rd, e7, ok_eq fR, if_true, ok_rt, and_self]
    obtain ⟨r, K, q1, rfl, rfl⟩ := hO
    exact q1
/-- the class's least place -/
theorem least_A {r0 n b i S : Nat} {am : Nat → Nat} {I : MI} (hs : siz shT (r0 + 2) = 10) (hA : ∀ x, x < n → I (r0 + 1) x = nn (am x)) (hb : b ≤ 10) (hab : ∀ l j, (am l).testBit j = true → j < b) (hn : n ≤ 10) (hi : i < n) (hS : S < 1024) : Ok (F_Matching_leastPlace r0 (nn i) (nn n) (nn S) (nn (mx (fun l j => (am l).testBit j) b (n - i) i S))) I fun v I1 => v = own (lsT (ccB (fun l j => (am l).testBit j) b n i S) 10) ∧ ∀ a, a ≠ r0 → a ≠ r0 + 2 → I1 a = I a := by
  unfold F_Matching_leastPlace K_Matching_leastPlace_3
  have ii : inR (nn i) 10 = true := inR_nn (by omega) (by omega)
  have it : (nn i).toNatClampNeg = i := nn_nat (by omega)
  refine ok_lp (fun k x K => x = nn k ∧ (∀ a, a ≠ r0 → a ≠ r0 + 2 → K a = I a) ∧ ∀ j, j < k → ccB (fun l j => (am l).testBit j) b n i S j = false) 10 (fun k x K hk hP => ?_) (fun x K hP => ?_) FU 0 I (by rw [FU_eq]; omega) ⟨rfl, fun _ _ _ => rfl, fun j hj => absurd hj (by omega)⟩
  · obtain ⟨rfl, hK, hc⟩ := hP
    have gk : nn k < 10 := (nn_lt (k := 10) (by omega) (by omega)).mpr hk
    have e1 : K (r0 + 1) i = nn (am i) := by rw [hK (r0 + 1) (by omega) (by omega)]; exact hA i hi
    unfold B_Matching_leastPlace_3
    simp only [ok_ite, if_pos gk, ok_bn, ok_ld, ii, it, e1, true_and, nn_s, ok_rt]
    by_cases hv : (am i).testBit k = true ∧ S.testBit k = false
    · have nz : ¬ (nn (am i) &&& (nn S ^^^ (-1 : Int32))) &&& ((1 : Int32) <<< (nn k &&& 31)) = 0 := fun q => (vis hk).mp q hv
      have pk : (2 : Nat) ^ k < 2 ^ 10 := Nat.pow_lt_pow_right (by decide) hk
      have eo : nn S ||| ((1 : Int32) <<< (nn k &&& 31)) = nn (S ||| 2 ^ k) := by rw [shl_nn (by omega), or_nn (by omega) (by omega)]
      have S1 : S ||| 2 ^ k < 1024 := Nat.or_lt_two_pow (n := 10) hS pk
      obtain ⟨I2, q1, q2⟩ := most_ok (r0 := r0) (b := b) (f := i + 1) (t := n) (T := S ||| 2 ^ k) (am := am) (I := K) hs (fun x hx => by rw [hK (r0 + 1) (by omega) (by omega)]; exact hA x hx) hb hab (by omega) hn S1
      have m1 := mx_le (al := fun l j => (am l).testBit j) (b := b) (n - (i + 1)) (i + 1) (S ||| 2 ^ k)
      have m2 := mx_le (al := fun l j => (am l).testBit j) (b := b) (n - i) i S
      have ea : (1 : Int32) + nn (mx (fun l j => (am l).testBit j) b (n - (i + 1)) (i + 1) (S ||| 2 ^ k)) = nn (1 + mx (fun l j => (am l).testBit j) b (n - (i + 1)) (i + 1) (S ||| 2 ^ k)) := nn_add 1 _
      rw [if_neg nz, eo, ok_eq q1, ea]
      by_cases hq : 1 + mx (fun l j => (am l).testBit j) b (n - (i + 1)) (i + 1) (S ||| 2 ^ k) = mx (fun l j => (am l).testBit j) b (n - i) i S
      · rw [if_pos (congrArg nn hq)]
        have cT : ccB (fun l j => (am l).testBit j) b n i S k = true := by
          unfold ccB
          dsimp only
          rw [hv.1, hv.2, decide_eq_true hq]; rfl
        have e : k = lsT (ccB (fun l j => (am l).testBit j) b n i S) 10 := LT_one (Or.inl ⟨hk, cT, hc⟩) (lsT_LT _)
        refine ⟨?_, fun a h1 h2 => (q2 a h1 h2).trans (hK a h1 h2)⟩
        rw [← e, own_in hk]
      · rw [if_neg (fun q => hq ((nn_inj (by omega) (by omega)).mp q))]
        refine ⟨fun a h1 h2 => (q2 a h1 h2).trans (hK a h1 h2), fun j hj => ?_⟩
        by_cases e : j = k
        · subst e
          unfold ccB
          dsimp only
          rw [decide_eq_false hq, Bool.and_false]
        · exact hc j (by omega)
    · rw [if_pos ((vis hk).mpr hv)]
      refine ⟨hK, fun j hj => ?_⟩
      by_cases e : j = k
      · subst e
        unfold ccB
        dsimp only
        cases h1 : (am i).testBit j with
        | false => rfl
        | true =>
          cases h2 : S.testBit j with
          | true => rfl
          | false => exact absurd ⟨h1, h2⟩ hv
      · exact hc j (by omega)
  · obtain ⟨rfl, hK, hc⟩ := hP
    have gk : ¬ nn 10 < 10 := by decide
    unfold B_Matching_leastPlace_3
    simp only [ok_ite, if_neg gk, ok_rt]
    have e : 10 = lsT (ccB (fun l j => (am l).testBit j) b n i S) 10 := LT_one (Or.inr ⟨rfl, hc⟩) (lsT_LT _)
    exact ⟨by rw [← e]; rfl, hK⟩
theorem first_A {r0 n b t : Nat} {am : Nat → Nat} {I : MI} (hs : siz shT (r0 + 2) = 10) (hA : ∀ x, x < n → I (r0 + 1) x = nn (am x)) (hb : b ≤ 10) (hab : ∀ l j, (am l).testBit j = true → j < b) (hn : n ≤ 10) (ht : t < n) : Ok (F_Matching_firstPlace r0 (nn n) (nn t)) I fun v I1 => v = own (lsT (ccB (fun l j => (am l).testBit j) b n t (sqS (fun l j => (am l).testBit j) b n t)) 10) ∧ ∀ a, a ≠ r0 → a ≠ r0 + 2 → I1 a = I a := by
  have p2 : 2 ^ b ≤ 1024 := by
    have : (2 : Nat) ^ b ≤ 2 ^ 10 := Nat.pow_le_pow_right (by decide) hb
    exact this
  unfold F_Matching_firstPlace K_Matching_firstPlace_17
  obtain ⟨I2, q1, q2⟩ := most_ok (r0 := r0) (b := b) (f := 0) (t := n) (T := 0) (am := am) (I := I) hs hA hb hab (Nat.zero_le _) hn (by decide)
  have q1' : F_Matching_most r0 0 (nn n) 0 I = some (nn (mx (fun l j => (am l).testBit j) b (n - 0) 0 0), I2) := q1
  rw [ok_bn, ok_eq q1']
  refine ok_lp (fun k y K => (∀ a, a ≠ r0 → a ≠ r0 + 2 → K a = I a) ∧ ∃ e, y = (nn (mx (fun l j => (am l).testBit j) b (n - k) k (sqS (fun l j => (am l).testBit j) b n k)), nn (sqS (fun l j => (am l).testBit j) b n k), e, nn k) ∧ (0 < k → e = own (lsT (ccB (fun l j => (am l).testBit j) b n (k - 1) (sqS (fun l j => (am l).testBit j) b n (k - 1))) 10))) (t + 1) (fun k y K hk hP => ?_) (fun y K hP => ?_) FU _ I2 (by rw [FU_eq]; omega) ⟨q2, -1, rfl, fun h => absurd h (by omega)⟩
  · obtain ⟨hK, e, rfl, -⟩ := hP
    have g1 : ¬ nn t < nn k := fun q => by have := (nn_lt (by omega) (by omega)).mp q; omega
    have g2 : nn k < nn n := (nn_lt (by omega) (by omega)).mpr (by omega)
    have g3 : nn k < 10 := (nn_lt (k := 10) (by omega) (by omega)).mpr (by omega)
    have hsq := sq_lt (al := fun l j => (am l).testBit j) (b := b) (n := n) hab k
    obtain ⟨v, I3, r1, hv, r3⟩ := least_A (r0 := r0) (n := n) (b := b) (i := k) (S := sqS (fun l j => (am l).testBit j) b n k) (am := am) (I := K) hs (fun x hx => by rw [hK (r0 + 1) (by omega) (by omega)]; exact hA x hx) hb hab hn (by omega) (by omega)
    rw [hv] at r1
    clear hv
    have hK3 : ∀ a, a ≠ r0 → a ≠ r0 + 2 → I3 a = I a := fun a h1 h2 => (r3 a h1 h2).trans (hK a h1 h2)
    obtain ⟨n1, n2⟩ := nx_mx (al := fun l j => (am l).testBit j) (b := b) (n := n) (i := k) (S := sqS (fun l j => (am l).testBit j) b n k) hb (by omega)
    have sn : sqS (fun l j => (am l).testBit j) b n (k + 1) = nxS (fun l j => (am l).testBit j) b n k (sqS (fun l j => (am l).testBit j) b n k) := rfl
    have nxe : nxS (fun l j => (am l).testBit j) b n k (sqS (fun l j => (am l).testBit j) b n k) = if lsT (ccB (fun l j => (am l).testBit j) b n k (sqS (fun l j => (am l).testBit j) b n k)) 10 < 10 then sqS (fun l j => (am l).testBit j) b n k ||| 2 ^ lsT (ccB (fun l j => (am l).testBit j) b n k (sqS (fun l j => (am l).testBit j) b n k)) 10 else sqS (fun l j => (am l).testBit j) b n k := rfl
    have m1 := mx_le (al := fun l j => (am l).testBit j) (b := b) (n - k) k (sqS (fun l j => (am l).testBit j) b n k)
    refine ok_mono (Q := fun r I4 => (∀ a, a ≠ r0 → a ≠ r0 + 2 → I4 a = I a) ∧ r = .inl (nn (mx (fun l j => (am l).testBit j) b (n - (k + 1)) (k + 1) (sqS (fun l j => (am l).testBit j) b n (k + 1))), nn (sqS (fun l j => (am l).testBit j) b n (k + 1)), own (lsT (ccB (fun l j => (am l).testBit j) b n k (sqS (fun l j => (am l).testBit j) b n k)) 10), nn (k + 1))) ?_ fun r I4 q => by
      obtain ⟨z1, rfl⟩ := q
      exact ⟨z1, own (lsT (ccB (fun l j => (am l).testBit j) b n k (sqS (fun l j => (am l).testBit j) b n k)) 10), rfl, fun _ => by rw [Nat.add_sub_cancel]⟩
    rw [sn]
    generalize nxS (fun l j => (am l).testBit j) b n k (sqS (fun l j => (am l).testBit j) b n k) = S2 at *
    generalize lsT (ccB (fun l j => (am l).testBit j) b n k (sqS (fun l j => (am l).testBit j) b n k)) 10 = p at *
    generalize mx (fun l j => (am l).testBit j) b (n - (k + 1)) (k + 1) S2 = x1 at *
    generalize mx (fun l j => (am l).testBit j) b (n - k) k (sqS (fun l j => (am l).testBit j) b n k) = x0 at *
    generalize sqS (fun l j => (am l).testBit j) b n k = Sk at *
    unfold B_Matching_firstPlace_17
    simp only [ok_ite, if_neg g1, if_pos g2, if_pos g3, ok_bn, ok_eq r1, ok_rt, nn_s]
    by_cases hq : p < 10
    · have qn : ¬ nn p = -1 := fun q => own_m1.mp ((own_in hq).trans q) hq
      have pw : 2 ^ p < 2 ^ 10 := Nat.pow_lt_pow_right (by decide) hq
      have n1 := n1 hq
      rw [if_pos hq] at nxe
      have e0 : x0 - 1 = x1 := by omega
      have e1 : nn x0 + (-1 : Int32) = nn x1 := by rw [pm1 (by omega), e0]
      simp only [if_neg qn, own_in hq, shl_nn (show p < 31 by omega), or_nn (show Sk < 2 ^ 31 by omega) (show 2 ^ p < 2 ^ 31 by omega), e1, nxe, and_true]
      exact hK3
    · have n2 := n2 hq
      rw [if_neg hq] at nxe
      simp only [if_pos (own_m1.mpr hq), nxe, n2, own_no hq, and_true]
      exact hK3
  · obtain ⟨hK, e, rfl, he⟩ := hP
    have g1 : nn t < nn (t + 1) := (nn_lt (by omega) (by omega)).mpr (by omega)
    unfold B_Matching_firstPlace_17
    simp only [ok_ite, if_pos g1, ok_rt]
    have he := he (Nat.succ_pos t)
    rw [Nat.add_sub_cancel] at he
    exact ⟨he, hK⟩
end BE97
