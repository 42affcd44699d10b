/-! the most that can be paired: by sets of places, and by what a pairing shows -/
section MX92
theorem cn_cg {c d : Nat → Bool} {n : Nat} (h : ∀ k, k < n → c k = d k) : cntN c n = cntN d n := by
  induction n with
  | zero => rfl
  | succ n ih =>
    unfold cntN
    rw [ih (fun k hk => h k (by omega)), h n (by omega)]
theorem cn_le {c d : Nat → Bool} {n : Nat} (h : ∀ k, k < n → c k = true → d k = true) : cntN c n ≤ cntN d n := by
  induction n with
  | zero => exact Nat.le_refl _
  | succ n ih =>
    have q := ih (fun k hk => h k (by omega))
    unfold cntN
    by_cases hc : c n = true
    · rw [if_pos hc, if_pos (h n (by omega) hc)]; omega
    · rw [if_neg hc]; split <;> omega
theorem cn_lt {c d : Nat → Bool} {n j : Nat} (hj : j < n) (h : ∀ k, k < n → c k = true → d k = true) (hc : c j = false) (hd : d j = true) : cntN c n + 1 ≤ cntN d n := by
  induction n with
  | zero => omega
  | succ n ih =>
    unfold cntN
    by_cases e : j = n
    · subst e
      have q := cn_le (n := j) (fun k hk => h k (by omega))
      rw [if_neg (by rw [hc]; decide), if_pos hd]; omega
    · have q := ih (by omega) (fun k hk => h k (by omega))
      by_cases hcn : c n = true
      · rw [if_pos hcn, if_pos (h n (by omega) hcn)]; omega
      · rw [if_neg hcn]; split <;> omega
theorem cn_two {c d f : Nat → Bool} {n : Nat} (h : ∀ k, k < n → (c k = true → d k = false) ∧ (c k = true → f k = true) ∧ (d k = true → f k = true)) : cntN c n + cntN d n ≤ cntN f n := by
  induction n with
  | zero => exact Nat.le_refl _
  | succ n ih =>
    have q := ih (fun k hk => h k (by omega))
    obtain ⟨h1, h2, h3⟩ := h n (by omega)
    unfold cntN
    by_cases hc : c n = true
    · rw [if_pos hc, if_pos (h2 hc), if_neg (by rw [h1 hc]; decide)]; omega
    · rw [if_neg hc]
      by_cases hd : d n = true
      · rw [if_pos hd, if_pos (h3 hd)]; omega
      · rw [if_neg hd]; split <;> omega
theorem cn_or {c d f : Nat → Bool} {n : Nat} (h : ∀ k, k < n → f k = true → c k = true ∨ d k = true) : cntN f n ≤ cntN c n + cntN d n := by
  induction n with
  | zero => exact Nat.le_refl _
  | succ n ih =>
    have q := ih (fun k hk => h k (by omega))
    have h1 := h n (by omega)
    unfold cntN
    by_cases hf : f n = true
    · rw [if_pos hf]
      rcases h1 hf with hc | hd
      · rw [if_pos hc]; split <;> omega
      · rw [if_pos hd]; split <;> omega
    · rw [if_neg hf]; split <;> split <;> omega
def mxJ (al : Nat → Nat → Bool) (f : Nat → Nat) (i S m : Nat) : Nat → Nat
  | 0 => m
  | j + 1 => max (mxJ al f i S m j) (if (al i j && !S.testBit j) = true then 1 + f (S ||| 2 ^ j) else 0)
def mx (al : Nat → Nat → Bool) (b : Nat) : Nat → Nat → Nat → Nat
  | 0, _, _ => 0
  | k + 1, i, S => mxJ al (fun R => mx al b k (i + 1) R) i S (mx al b k (i + 1) S) b
theorem mxJ_0 {al : Nat → Nat → Bool} {f : Nat → Nat} {i S m : Nat} : ∀ j, m ≤ mxJ al f i S m j := by
  intro j
  induction j with
  | zero => exact Nat.le_refl _
  | succ j ih => unfold mxJ; omega
theorem mxJ_ge {al : Nat → Nat → Bool} {f : Nat → Nat} {i S m l : Nat} (hc : (al i l && !S.testBit l) = true) : ∀ j, l < j → 1 + f (S ||| 2 ^ l) ≤ mxJ al f i S m j := by
  intro j
  induction j with
  | zero => intro h; omega
  | succ j ih =>
    intro h
    unfold mxJ
    by_cases e : l = j
    · subst e; rw [if_pos hc]; omega
    · have := ih (by omega); omega
theorem mxJ_le {al : Nat → Nat → Bool} {f : Nat → Nat} {i S m B : Nat} (h0 : m ≤ B) : ∀ j, (∀ l, l < j → (al i l && !S.testBit l) = true → 1 + f (S ||| 2 ^ l) ≤ B) → mxJ al f i S m j ≤ B := by
  intro j
  induction j with
  | zero => intro _; exact h0
  | succ j ih =>
    intro h
    have q := ih (fun l hl => h l (by omega))
    unfold mxJ
    by_cases hc : (al i j && !S.testBit j) = true
    · rw [if_pos hc]
      have := h j (by omega) hc
      omega
    · rw [if_neg hc]; omega
theorem mx_ub {al : Nat → Nat → Bool} {b : Nat} {V : Nat → Bool} {o : Nat → Nat} {T : Nat} (hb : b ≤ 10) : ∀ k i S, (∀ y, y < 10 → T.testBit y = true → S.testBit y = true) → (∀ l, i ≤ l → l < i + k → (∃ y, y < 10 ∧ o y = l ∧ V y = false) ∨ ∀ j, j < b → al l j = true → T.testBit j = false → V j = true) → mx al b k i S ≤ cntN (fun y => decide (i ≤ o y ∧ o y < i + k) && !V y) 10 + cntN (fun y => V y && !S.testBit y) 10 := by
  intro k
  induction k with
  | zero => intro i S _ _; unfold mx; omega
  | succ k ih =>
    intro i S hS hl
    have mono : cntN (fun y => decide (i + 1 ≤ o y ∧ o y < i + 1 + k) && !V y) 10 ≤ cntN (fun y => decide (i ≤ o y ∧ o y < i + (k + 1)) && !V y) 10 := cn_le fun y _ h => by
      simp only [Bool.and_eq_true, decide_eq_true_eq] at h ⊢
      exact ⟨by omega, h.2⟩
    unfold mx
    refine mxJ_le ?_ b fun j hj hc => ?_
    · have := ih (i + 1) S hS (fun l h1 h2 => hl l (by omega) (by omega))
      omega
    · obtain ⟨c1, c2⟩ := and_mp hc
      have c2 : S.testBit j = false := by simpa using c2
      have q := ih (i + 1) (S ||| 2 ^ j) (fun y hy h => by rw [tb_or2, hS y hy h]; rfl) (fun l h1 h2 => hl l (by omega) (by omega))
      have m2 : cntN (fun y => V y && !(S ||| 2 ^ j).testBit y) 10 ≤ cntN (fun y => V y && !S.testBit y) 10 := cn_le fun y _ h => by
        rw [tb_or2] at h
        simp only [Bool.and_eq_true, Bool.not_eq_true', Bool.or_eq_false_iff] at h ⊢
        exact ⟨h.1, h.2.1⟩
      rcases hl i (by omega) (by omega) with ⟨y, hy, e1, e2⟩ | h2
      · have m3 : cntN (fun y => decide (i + 1 ≤ o y ∧ o y < i + 1 + k) && !V y) 10 + 1 ≤ cntN (fun y => decide (i ≤ o y ∧ o y < i + (k + 1)) && !V y) 10 := cn_lt hy (fun y _ h => by
          simp only [Bool.and_eq_true, decide_eq_true_eq] at h ⊢
          exact ⟨by omega, h.2⟩) (by rw [e1, decide_eq_false (by omega)]; rfl) (by rw [e1, e2, decide_eq_true (by omega)]; rfl)
        omega
      · have hV := h2 j hj c1 (by
          cases hT : T.testBit j with
          | false => rfl
          | true => rw [hS j (by omega) hT] at c2; cases c2)
        have m3 : cntN (fun y => V y && !(S ||| 2 ^ j).testBit y) 10 + 1 ≤ cntN (fun y => V y && !S.testBit y) 10 := cn_lt (j := j) (by omega) (fun y _ h => by
          rw [tb_or2] at h
          simp only [Bool.and_eq_true, Bool.not_eq_true', Bool.or_eq_false_iff] at h ⊢
          exact ⟨h.1, h.2.1⟩) (by rw [tb_or2, decide_eq_true (rfl : j = j)]; simp) (by rw [hV, c2]; rfl)
        omega
theorem mx_lb {al : Nat → Nat → Bool} {b : Nat} {o : Nat → Nat} (hb : b ≤ 10) (ha : ∀ l j, al l j = true → j < b) (hv : ∀ y, y < 10 → o y < 10 → al (o y) y = true) (hi : ∀ y z, y < 10 → z < 10 → o y < 10 → o y = o z → y = z) : ∀ k i S, i + k ≤ 10 → cntN (fun y => decide (i ≤ o y ∧ o y < i + k) && !S.testBit y) 10 ≤ mx al b k i S := by
  intro k
  induction k with
  | zero =>
    intro i S _
    have : cntN (fun y => decide (i ≤ o y ∧ o y < i + 0) && !S.testBit y) 10 ≤ cntN (fun _ => false) 10 := cn_le fun y _ h => by
      simp only [Bool.and_eq_true, decide_eq_true_eq] at h
      omega
    have z : cntN (fun _ => false) 10 = 0 := by decide
    omega
  | succ k ih =>
    intro i S hk
    by_cases hm : ∃ y, y < 10 ∧ o y = i ∧ S.testBit y = false
    · obtain ⟨y, hy, e1, e2⟩ := hm
      have hal : al i y = true := by have := hv y hy (by omega); rw [e1] at this; exact this
      have q := ih (i + 1) (S ||| 2 ^ y) (by omega)
      have c : cntN (fun z => decide (i ≤ o z ∧ o z < i + (k + 1)) && !S.testBit z) 10 ≤ cntN (fun z => decide (i + 1 ≤ o z ∧ o z < i + 1 + k) && !(S ||| 2 ^ y).testBit z) 10 + cntN (fun z => decide (z = y)) 10 := cn_or fun z hz h => by
        simp only [Bool.and_eq_true, decide_eq_true_eq, Bool.not_eq_true'] at h
        by_cases e : z = y
        · exact Or.inr (decide_eq_true e)
        · refine Or.inl ?_
          have n1 : o z ≠ i := fun h1 => e (hi z y hz hy (by omega) (h1.trans e1.symm))
          rw [tb_or2, h.2, decide_eq_false (show ¬ y = z from fun q => e q.symm), decide_eq_true (show i + 1 ≤ o z ∧ o z < i + 1 + k by omega)]
          rfl
      have one : cntN (fun z => decide (z = y)) 10 ≤ 1 := by
        have : ∀ y, y < 10 → cntN (fun z => decide (z = y)) 10 ≤ 1 := by decide
        exact this y hy
      have g : (al i y && !S.testBit y) = true := by rw [hal, e2]; rfl
      have r := mxJ_ge (f := fun R => mx al b k (i + 1) R) (m := mx al b k (i + 1) S) g b (ha i y hal)
      unfold mx
      omega
    · have q := ih (i + 1) S (by omega)
      have c : cntN (fun z => decide (i ≤ o z ∧ o z < i + (k + 1)) && !S.testBit z) 10 ≤ cntN (fun z => decide (i + 1 ≤ o z ∧ o z < i + 1 + k) && !S.testBit z) 10 := cn_le fun z hz h => by
        simp only [Bool.and_eq_true, decide_eq_true_eq, Bool.not_eq_true'] at h ⊢
        have n1 : o z ≠ i := fun h1 => hm ⟨z, hz, h1, h.2⟩
        exact ⟨by omega, h.2⟩
      have r := mxJ_0 (al := al) (f := fun R => mx al b k (i + 1) R) (i := i) (S := S) (m := mx al b k (i + 1) S) b
      unfold mx
      omega
end MX92
