/-! persons: the reference's sets -/
section PF99
def cnS (S : Nat) : Nat := cntN (fun y => S.testBit y) 10
theorem cnS_or {S y : Nat} (hy : y < 10) (h : S.testBit y = false) : cnS (S ||| 2 ^ y) = cnS S + 1 := by
  refine cn_one (r := y) hy h (by rw [tb_or2, decide_eq_true (rfl : y = y), Bool.or_true]) fun z _ e => ?_
  show (S ||| 2 ^ y).testBit z = S.testBit z
  rw [tb_or2, decide_eq_false (show ¬ y = z from fun q => e q.symm), Bool.or_false]
def Ach (al : Nat → Nat → Bool) : Nat → Nat → Prop
  | 0, S => S = 0
  | i + 1, S => Ach al i S ∨ ∃ y R, y < 10 ∧ al i y = true ∧ R.testBit y = false ∧ S = R ||| 2 ^ y ∧ Ach al i R
theorem ach_ub {al : Nat → Nat → Bool} {b n : Nat} (hb : b ≤ 10) (hal : ∀ l j, al l j = true → j < b) : ∀ i, i ≤ n → ∀ S, Ach al i S → cnS S + mx al b (n - i) i S ≤ mx al b n 0 0 := by
  intro i
  induction i with
  | zero =>
    intro _ S h
    have h : S = 0 := h
    subst h
    have : cnS 0 = 0 := by decide
    rw [this, Nat.sub_zero]; omega
  | succ i ih =>
    intro hi S h
    have e : n - i = n - (i + 1) + 1 := by omega
    rcases h with h | ⟨y, R, hy, h1, h2, rfl, h3⟩
    · have q := ih (by omega) S h
      rw [e] at q
      have r := mxJ_0 (al := al) (f := fun R => mx al b (n - (i + 1)) (i + 1) R) (i := i) (S := S) (m := mx al b (n - (i + 1)) (i + 1) S) b
      have r2 : mx al b (n - (i + 1) + 1) i S = mxJ al (fun R => mx al b (n - (i + 1)) (i + 1) R) i S (mx al b (n - (i + 1)) (i + 1) S) b := rfl
      omega
    · have q := ih (by omega) R h3
      rw [e] at q
      have r := mxJ_ge (al := al) (f := fun R => mx al b (n - (i + 1)) (i + 1) R) (i := i) (S := R) (m := mx al b (n - (i + 1)) (i + 1) R) (l := y) (by rw [h1, h2]; rfl) b (hal i y h1)
      have r2 : mx al b (n - (i + 1) + 1) i R = mxJ al (fun R => mx al b (n - (i + 1)) (i + 1) R) i R (mx al b (n - (i + 1)) (i + 1) R) b := rfl
      rw [cnS_or hy h2]
      omega
theorem ach_ex {al : Nat → Nat → Bool} {b n : Nat} (hb : b ≤ 10) : ∀ i, i ≤ n → ∃ S, S < 2 ^ b ∧ Ach al i S ∧ cnS S + mx al b (n - i) i S = mx al b n 0 0 := by
  intro i
  induction i with
  | zero =>
    intro _
    refine ⟨0, Nat.two_pow_pos b, rfl, ?_⟩
    have : cnS 0 = 0 := by decide
    rw [this, Nat.sub_zero]; omega
  | succ i ih =>
    intro hi
    obtain ⟨S, h0, h1, h2⟩ := ih (by omega)
    have e : n - i = n - (i + 1) + 1 := by omega
    have r2 : mx al b (n - (i + 1) + 1) i S = mxJ al (fun R => mx al b (n - (i + 1)) (i + 1) R) i S (mx al b (n - (i + 1)) (i + 1) S) b := rfl
    rw [e] at h2
    rcases mxJ_at (al := al) (f := fun R => mx al b (n - (i + 1)) (i + 1) R) (i := i) (S := S) (m := mx al b (n - (i + 1)) (i + 1) S) b with q | ⟨l, l1, l2, l3⟩
    · exact ⟨S, h0, Or.inl h1, by omega⟩
    · obtain ⟨c1, c2⟩ := and_mp l2
      have c2 : S.testBit l = false := by simpa using c2
      refine ⟨S ||| 2 ^ l, Nat.or_lt_two_pow h0 (Nat.pow_lt_pow_right (by decide) l1), Or.inr ⟨l, S, by omega, c1, c2, rfl, h1⟩, ?_⟩
      rw [cnS_or (by omega) c2]
      have l3 : 1 + mx al b (n - (i + 1)) (i + 1) (S ||| 2 ^ l) = mxJ al (fun R => mx al b (n - (i + 1)) (i + 1) R) i S (mx al b (n - (i + 1)) (i + 1) S) b := l3
      omega
/-- a set's number: how many it has, or far below -/
def VV (A : Prop) (i S : Nat) (z : Int32) : Prop := (A ∧ z = nn (cnS S)) ∨ (¬ A ∧ -100000000 ≤ z.toInt ∧ z.toInt ≤ -100000000 + i)
theorem cnS_le (S : Nat) : cnS S ≤ 10 := (cntF_N (fun y => S.testBit y) 10).2
theorem vv_iff {A B : Prop} {i S : Nat} {z : Int32} (h : A ↔ B) (q : VV A i S z) : VV B i S z := by
  rcases q with ⟨a, b⟩ | ⟨a, b⟩
  · exact Or.inl ⟨h.mp a, b⟩
  · exact Or.inr ⟨fun x => a (h.mpr x), b⟩
theorem vv_up {A : Prop} {i S : Nat} {z : Int32} (q : VV A i S z) : VV A (i + 1) S z := by
  rcases q with ⟨a, b⟩ | ⟨a, b, c⟩
  · exact Or.inl ⟨a, b⟩
  · exact Or.inr ⟨a, b, by omega⟩
theorem vv_max {A B : Prop} {i S y : Nat} {g z : Int32} (hi : i ≤ 10) (hy : y < 10) (hS : S.testBit y = false) (h1 : VV A (i + 1) (S ||| 2 ^ y) g) (h2 : VV B i S z) : VV (A ∨ B) (i + 1) (S ||| 2 ^ y) (if z + 1 < g then g else z + 1) := by
  have c := cnS_or hy hS
  have c1 := cnS_le S
  have c2 := cnS_le (S ||| 2 ^ y)
  have one : (1 : Int32).toInt = 1 := rfl
  rcases h2 with ⟨b1, rfl⟩ | ⟨b1, b2, b3⟩
  · have e : nn (cnS S) + 1 = nn (cnS (S ||| 2 ^ y)) := by rw [c]; exact nn_add _ 1
    rw [e]
    rcases h1 with ⟨a1, rfl⟩ | ⟨a1, a2, a3⟩
    · rw [if_neg (fun q => by have := (nn_lt (by omega) (by omega)).mp q; omega)]
      exact Or.inl ⟨Or.inl a1, rfl⟩
    · rw [if_neg (fun q => by
        rw [Int32.lt_iff_toInt_lt, nn_toInt (by omega)] at q
        omega)]
      exact Or.inl ⟨Or.inr b1, rfl⟩
  · have t : (z + 1).toInt = z.toInt + 1 := by
      rw [Int32.toInt_add, one]
      exact Int.bmod_eq_of_le (by omega) (by omega)
    rcases h1 with ⟨a1, rfl⟩ | ⟨a1, a2, a3⟩
    · rw [if_pos (by
        rw [Int32.lt_iff_toInt_lt, nn_toInt (by omega), t]
        omega)]
      exact Or.inl ⟨Or.inl a1, rfl⟩
    · refine Or.inr ⟨fun q => q.elim a1 b1, ?_⟩
      by_cases q : z + 1 < g
      · rw [if_pos q]; exact ⟨a2, a3⟩
      · rw [if_neg q, t]; exact ⟨by omega, by omega⟩
end PF99
