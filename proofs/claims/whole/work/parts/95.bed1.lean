/-! beds: the reference's table, the class's masks -/
section BE95
theorem mx_le {al : Nat → Nat → Bool} {b : Nat} : ∀ k i S, mx al b k i S ≤ k := by
  intro k
  induction k with
  | zero => intro i S; exact Nat.le_refl _
  | succ k ih =>
    intro i S
    unfold mx
    refine mxJ_le (by have := ih (i + 1) S; omega) b fun l _ _ => ?_
    have := ih (i + 1) (S ||| 2 ^ l)
    omega
theorem mxJ_at {al : Nat → Nat → Bool} {f : Nat → Nat} {i S m : Nat} : ∀ j, mxJ al f i S m j = m ∨ ∃ l, l < j ∧ (al i l && !S.testBit l) = true ∧ 1 + f (S ||| 2 ^ l) = mxJ al f i S m j := by
  intro j
  induction j with
  | zero => exact Or.inl rfl
  | succ j ih =>
    unfold mxJ
    by_cases hc : (al i j && !S.testBit j) = true
    · rw [if_pos hc]
      by_cases hm : mxJ al f i S m j ≤ 1 + f (S ||| 2 ^ j)
      · exact Or.inr ⟨j, by omega, hc, by omega⟩
      · rw [Nat.max_eq_left (by omega)]
        rcases ih with h | ⟨l, h1, h2, h3⟩
        · exact Or.inl h
        · exact Or.inr ⟨l, by omega, h2, h3⟩
    · rw [if_neg hc, Nat.max_eq_left (Nat.zero_le _)]
      rcases ih with h | ⟨l, h1, h2, h3⟩
      · exact Or.inl h
      · exact Or.inr ⟨l, by omega, h2, h3⟩
def lieB (J : MI) (i j : Nat) : Bool := !decide (J 244 i < J 245 j) && !decide (J 246 j < J 244 i)
def alB (J : MI) (b i j : Nat) : Bool := decide (j < b) && lieB J i j
theorem lie_R {J : MI} {i j : Nat} (hi : i < 8) (hj : j < 8) : F_R_doesLie (nn i) (nn j) J = some (if lieB J i j = true then 1 else 0, J) := by
  have i1 : inR (nn i) 8 = true := inR_nn hi (by omega)
  have t1 : (nn i).toNatClampNeg = i := nn_nat (by omega)
  have i2 : inR (nn j) 8 = true := inR_nn hj (by omega)
  have t2 : (nn j).toNatClampNeg = j := nn_nat (by omega)
  have hO : Ok (F_R_doesLie (nn i) (nn j)) J fun v K => v = (if lieB J i j = true then 1 else 0) ∧ K = J := by
    unfold F_R_doesLie F_R_isIn lieB
    simp only [ok_bn, ok_ld, i1, t1, i2, t2, true_and, ok_ite, ok_gdZ, ok_rt]
    by_cases h1 : J 244 i < J 245 j
    · simp (decide := true) only [if_pos h1, decide_eq_true h1, Bool.not_true, Bool.false_and, if_false, true_or, and_self]
    · by_cases h2 : J 246 j < J 244 i
      · simp (decide := true) only [if_neg h1, if_pos h2, decide_eq_false h1, decide_eq_true h2, Bool.not_false, Bool.not_true, Bool.true_and, if_false, true_or, and_self]
      · simp (decide := true) only [if_neg h1, if_neg h2, decide_eq_false h1, decide_eq_false h2, Bool.not_false, Bool.true_and, if_true, or_true, and_self]
  obtain ⟨v, K, h1, rfl, rfl⟩ := hO
  exact h1
/-- the reference's table holds for rows from i on -/
def BT (J0 : MI) (n b i : Nat) (J : MI) : Prop := (∀ a, a ≠ 247 → J a = J0 a) ∧ ∀ r S, i ≤ r → r ≤ n → S < 2 ^ b → J 247 (256 * r + S) = nn (mx (alB J0 b) b (n - r) r S)
theorem bt_cell {J0 J : MI} {n b i S : Nat} (hn : n ≤ 8) (hb : b ≤ 8) (hi : i < n) (hS : S < 2 ^ b) (h7 : J0 207 63 = nn b) (h : BT J0 n b (i + 1) J) : ∃ e, lp (B_R_findsBedded_72 (nn i) (nn S)) FU (nn (mx (alB J0 b) b (n - (i + 1)) (i + 1) S), 0) J = some (e, J) ∧ e = nn (mx (alB J0 b) b (n - i) i S) := by
  have p2 : 2 ^ b ≤ 256 := by
    have : (2 : Nat) ^ b ≤ 2 ^ 8 := Nat.pow_le_pow_right (by decide) hb
    exact this
  have key : lp (B_R_findsBedded_72 (nn i) (nn S)) FU (nn (mxJ (alB J0 b) (fun R => mx (alB J0 b) b (n - (i + 1)) (i + 1) R) i S (mx (alB J0 b) b (n - (i + 1)) (i + 1) S) 0), nn 0) J = some (nn (mxJ (alB J0 b) (fun R => mx (alB J0 b) b (n - (i + 1)) (i + 1) R) i S (mx (alB J0 b) b (n - (i + 1)) (i + 1) S) b), J) := by
    refine lp_val (fun j => (nn (mxJ (alB J0 b) (fun R => mx (alB J0 b) b (n - (i + 1)) (i + 1) R) i S (mx (alB J0 b) b (n - (i + 1)) (i + 1) S) j), nn j)) b (fun j hj => ?_) ?_ FU (by rw [FU_eq]; omega)
    · have mj : mxJ (alB J0 b) (fun R => mx (alB J0 b) b (n - (i + 1)) (i + 1) R) i S (mx (alB J0 b) b (n - (i + 1)) (i + 1) S) j ≤ 9 := mxJ_le (by have := mx_le (al := alB J0 b) (b := b) (n - (i + 1)) (i + 1) S; omega) j fun l _ _ => by
        have := mx_le (al := alB J0 b) (b := b) (n - (i + 1)) (i + 1) (S ||| 2 ^ l)
        omega
      have e7 : J 207 63 = nn b := by rw [h.1 207 (by decide)]; exact h7
      have g1 : nn j < nn b := (nn_lt (by omega) (by omega)).mpr hj
      have hs : F_R_has (nn S) (nn j) = rt (if S.testBit j = true then 1 else 0) := has_nn (by omega) (by omega)
      have lj : lieB J i j = lieB J0 i j := by
        unfold lieB; rw [h.1 244 (by decide), h.1 245 (by decide), h.1 246 (by decide)]
      have sl := lie_R (J := J) (show i < 8 by omega) (show j < 8 by omega)
      rw [lj] at sl
      have pj : S ||| 2 ^ j < 2 ^ b := Nat.or_lt_two_pow hS (Nat.pow_lt_pow_right (by decide) hj)
      have jb : 2 ^ j < 2 ^ b := Nat.pow_lt_pow_right (by decide) hj
      have eo : nn S ||| ((1 : Int32) <<< (nn j &&& 31)) = nn (S ||| 2 ^ j) := by rw [shl_nn (by omega), or_nn (by omega) (by omega)]
      have ei : (256 : Int32) * nn (i + 1) + nn (S ||| 2 ^ j) = nn (256 * (i + 1) + (S ||| 2 ^ j)) := (congrArg (fun x => x + nn (S ||| 2 ^ j)) (nn_mul 256 (i + 1))).trans (nn_add _ _)
      have ir : inR (nn (256 * (i + 1) + (S ||| 2 ^ j))) 2304 = true := inR_nn (by omega) (by omega)
      have it : (nn (256 * (i + 1) + (S ||| 2 ^ j))).toNatClampNeg = 256 * (i + 1) + (S ||| 2 ^ j) := nn_nat (by omega)
      have ev := h.2 (i + 1) (S ||| 2 ^ j) (Nat.le_refl _) (by omega) pj
      have m2 := mx_le (al := alB J0 b) (b := b) (n - (i + 1)) (i + 1) (S ||| 2 ^ j)
      have hO : Ok (B_R_findsBedded_72 (nn i) (nn S) (nn (mxJ (alB J0 b) (fun R => mx (alB J0 b) b (n - (i + 1)) (i + 1) R) i S (mx (alB J0 b) b (n - (i + 1)) (i + 1) S) j), nn j)) J fun r K => r = .inl (nn (mxJ (alB J0 b) (fun R => mx (alB J0 b) b (n - (i + 1)) (i + 1) R) i S (mx (alB J0 b) b (n - (i + 1)) (i + 1) S) (j + 1)), nn (j + 1)) ∧ K = J := by
        unfold B_R_findsBedded_72
        simp only [ok_bn, ok_rd, e7, ok_ite, if_pos g1, hs, ok_rt, nn_s]
        have st : mxJ (alB J0 b) (fun R => mx (alB J0 b) b (n - (i + 1)) (i + 1) R) i S (mx (alB J0 b) b (n - (i + 1)) (i + 1) S) (j + 1) = max (mxJ (alB J0 b) (fun R => mx (alB J0 b) b (n - (i + 1)) (i + 1) R) i S (mx (alB J0 b) b (n - (i + 1)) (i + 1) S) j) (if (alB J0 b i j && !S.testBit j) = true then 1 + mx (alB J0 b) b (n - (i + 1)) (i + 1) (S ||| 2 ^ j) else 0) := rfl
        rw [st]
        have ab : alB J0 b i j = lieB J0 i j := by unfold alB; rw [decide_eq_true hj, Bool.true_and]
        rw [ab]
        cases hS2 : S.testBit j with
        | true =>
          simp (decide := true) only [if_true, if_false, Bool.not_true, Bool.and_false, Nat.max_eq_left (Nat.zero_le _), and_self]
        | false =>
          cases hl : lieB J0 i j with
          | false =>
            rw [hl] at sl
            simp (decide := true) only [if_true, if_false, ok_eq sl, Bool.not_false, Bool.and_true, Nat.max_eq_left (Nat.zero_le _), and_self]
          | true =>
            rw [hl] at sl
            have gr : F_R_greater (nn (mxJ (alB J0 b) (fun R => mx (alB J0 b) b (n - (i + 1)) (i + 1) R) i S (mx (alB J0 b) b (n - (i + 1)) (i + 1) S) j)) (1 + nn (mx (alB J0 b) b (n - (i + 1)) (i + 1) (S ||| 2 ^ j))) = rt (nn (max (mxJ (alB J0 b) (fun R => mx (alB J0 b) b (n - (i + 1)) (i + 1) R) i S (mx (alB J0 b) b (n - (i + 1)) (i + 1) S) j) (1 + mx (alB J0 b) b (n - (i + 1)) (i + 1) (S ||| 2 ^ j)))) := by
              have e1 : (1 : Int32) + nn (mx (alB J0 b) b (n - (i + 1)) (i + 1) (S ||| 2 ^ j)) = nn (1 + mx (alB J0 b) b (n - (i + 1)) (i + 1) (S ||| 2 ^ j)) := nn_add 1 _
              rw [gr_R, e1]
              congr 1
              by_cases hq : 1 + mx (alB J0 b) b (n - (i + 1)) (i + 1) (S ||| 2 ^ j) < mxJ (alB J0 b) (fun R => mx (alB J0 b) b (n - (i + 1)) (i + 1) R) i S (mx (alB J0 b) b (n - (i + 1)) (i + 1) S) j
              · rw [if_pos ((nn_lt (by omega) (by omega)).mpr hq), Nat.max_eq_left (by omega)]
              · rw [if_neg (fun q => hq ((nn_lt (by omega) (by omega)).mp q)), Nat.max_eq_right (by omega)]
            simp (decide := true) only [if_true, if_false, ok_eq sl, ok_bn, ok_ld, eo, ei, ir, it, ev, gr, ok_rt, Bool.not_false, Bool.and_true, true_and, and_self]
      obtain ⟨r, K, q1, rfl, rfl⟩ := hO
      exact q1
    · have e7 : J 207 63 = nn b := by rw [h.1 207 (by decide)]; exact h7
      have g1 : ¬ nn b < nn b := fun q => by have := (nn_lt (by omega) (by omega)).mp q; omega
      have hO : Ok (B_R_findsBedded_72 (nn i) (nn S) (nn (mxJ (alB J0 b) (fun R => mx (alB J0 b) b (n - (i + 1)) (i + 1) R) i S (mx (alB J0 b) b (n - (i + 1)) (i + 1) S) b), nn b)) J fun r K => r = .inr (nn (mxJ (alB J0 b) (fun R => mx (alB J0 b) b (n - (i + 1)) (i + 1) R) i S (mx (alB J0 b) b (n - (i + 1)) (i + 1) S) b)) ∧ K = J := by
        unfold B_R_findsBedded_72
        simp only [ok_bn, ok_rd, e7, ok_ite, if_neg g1, ok_rt, and_self]
      obtain ⟨r, K, q1, rfl, rfl⟩ := hO
      exact q1
  refine ⟨_, key, ?_⟩
  rw [show n - i = (n - (i + 1)) + 1 by omega]
  rfl
end BE95
