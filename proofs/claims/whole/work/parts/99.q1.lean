/-! names: the groups -/
section NA99
/-- one label for two groups -/
def mrg (L : Nat → Nat) (a b : Nat) : Nat → Nat := fun y => if L y = max (L a) (L b) then min (L a) (L b) else L y
def LL (f g o : Nat → Nat) : Nat → Nat → Nat
  | 0 => fun y => y
  | k + 1 => if o k = 1 then mrg (LL f g o k) (f k) (g k) else LL f g o k
/-- a label is a name of its group, none is less -/
def LOK (L : Nat → Nat) : Prop := ∀ y, y < 10 → L y < 10 ∧ L (L y) = L y ∧ L y ≤ y
theorem mrg_ok {L : Nat → Nat} {a b : Nat} (ha : a < 10) (hb : b < 10) (h : LOK L) : LOK (mrg L a b) := by
  obtain ⟨a1, a2, a3⟩ := h a ha
  obtain ⟨b1, b2, b3⟩ := h b hb
  have mm : min (L a) (L b) < 10 ∧ L (min (L a) (L b)) = min (L a) (L b) := by
    rcases Nat.le_total (L a) (L b) with q | q
    · rw [Nat.min_eq_left q]; exact ⟨a1, a2⟩
    · rw [Nat.min_eq_right q]; exact ⟨b1, b2⟩
  intro y hy
  obtain ⟨y1, y2, y3⟩ := h y hy
  unfold mrg
  by_cases e : L y = max (L a) (L b)
  · rw [if_pos e, mm.2]
    refine ⟨mm.1, ?_, by omega⟩
    by_cases e2 : min (L a) (L b) = max (L a) (L b)
    · rw [if_pos e2]
    · rw [if_neg e2]
  · rw [if_neg e, y2, if_neg e]
    exact ⟨y1, rfl, y3⟩
theorem LL_ok {f g o : Nat → Nat} {n : Nat} (hf : ∀ i, i < n → f i < 10 ∧ g i < 10) : ∀ k, k ≤ n → LOK (LL f g o k) := by
  intro k
  induction k with
  | zero => intro _ y hy; exact ⟨hy, rfl, Nat.le_refl _⟩
  | succ k ih =>
    intro hk
    unfold LL
    by_cases h : o k = 1
    · rw [if_pos h]; exact mrg_ok (hf k (by omega)).1 (hf k (by omega)).2 (ih (by omega))
    · rw [if_neg h]; exact ih (by omega)
theorem LL_one {f g o : Nat → Nat} : ∀ k i, i < k → o i = 1 → LL f g o k (f i) = LL f g o k (g i) := by
  intro k
  induction k with
  | zero => intro i h; exact absurd h (by omega)
  | succ k ih =>
    intro i hi ho
    unfold LL
    by_cases e : i = k
    · subst e
      rw [if_pos ho]
      unfold mrg
      by_cases h1 : LL f g o i (f i) = max (LL f g o i (f i)) (LL f g o i (g i))
      · rw [if_pos h1]
        by_cases h2 : LL f g o i (g i) = max (LL f g o i (f i)) (LL f g o i (g i))
        · rw [if_pos h2]
        · rw [if_neg h2]; omega
      · rw [if_neg h1, if_pos (by omega)]; omega
    · have q := ih i (by omega) ho
      by_cases h : o k = 1
      · rw [if_pos h]; unfold mrg; rw [q]
      · rw [if_neg h]; exact q
theorem LL_cl {f g o : Nat → Nat} {n : Nat} {S : Nat → Prop} (hS : ∀ i, i < n → o i = 1 → (S (f i) ↔ S (g i))) : ∀ k, k ≤ n → ∀ a b, LL f g o k a = LL f g o k b → (S a ↔ S b) := by
  intro k
  induction k with
  | zero => intro _ a b h; have h : a = b := h; rw [h]
  | succ k ih =>
    intro hk a b h
    have ih := ih (by omega)
    unfold LL at h
    by_cases ho : o k = 1
    · rw [if_pos ho] at h
      unfold mrg at h
      have fg := hS k (by omega) ho
      have side : ∀ c, LL f g o k c = max (LL f g o k (f k)) (LL f g o k (g k)) ∨ LL f g o k c = min (LL f g o k (f k)) (LL f g o k (g k)) → (S c ↔ S (f k)) := fun c hc => by
        have : LL f g o k c = LL f g o k (f k) ∨ LL f g o k c = LL f g o k (g k) := by omega
        rcases this with q | q
        · exact ih c (f k) q
        · exact (ih c (g k) q).trans fg.symm
      by_cases h1 : LL f g o k a = max (LL f g o k (f k)) (LL f g o k (g k))
      · rw [if_pos h1] at h
        by_cases h2 : LL f g o k b = max (LL f g o k (f k)) (LL f g o k (g k))
        · exact ih a b (h1.trans h2.symm)
        · rw [if_neg h2] at h
          exact (side a (Or.inl h1)).trans (side b (Or.inr h.symm)).symm
      · rw [if_neg h1] at h
        by_cases h2 : LL f g o k b = max (LL f g o k (f k)) (LL f g o k (g k))
        · rw [if_pos h2] at h
          exact (side a (Or.inr h)).trans (side b (Or.inl h2)).symm
        · rw [if_neg h2] at h
          exact ih a b h
    · rw [if_neg ho] at h
      exact ih a b h
/-- how many groups -/
def rpN (L : Nat → Nat) : Nat := cntN (fun y => decide (L y = y)) 10
theorem rp_mrg {L : Nat → Nat} {a b : Nat} (ha : a < 10) (hb : b < 10) (h : LOK L) (hne : L a ≠ L b) : rpN L = rpN (mrg L a b) + 1 := by
  obtain ⟨a1, a2, a3⟩ := h a ha
  obtain ⟨b1, b2, b3⟩ := h b hb
  have mx : max (L a) (L b) < 10 ∧ L (max (L a) (L b)) = max (L a) (L b) := by
    rcases Nat.le_total (L a) (L b) with q | q
    · rw [Nat.max_eq_right q]; exact ⟨b1, b2⟩
    · rw [Nat.max_eq_left q]; exact ⟨a1, a2⟩
  have mn : L (min (L a) (L b)) = min (L a) (L b) := by
    rcases Nat.le_total (L a) (L b) with q | q
    · rw [Nat.min_eq_left q]; exact a2
    · rw [Nat.min_eq_right q]; exact b2
  unfold rpN
  refine cn_one (r := max (L a) (L b)) mx.1 ?_ (decide_eq_true mx.2) fun y hy e => ?_
  · refine decide_eq_false fun q => ?_
    unfold mrg at q
    rw [if_pos mx.2] at q
    omega
  · unfold mrg
    by_cases h1 : L y = max (L a) (L b)
    · rw [if_pos h1, decide_eq_false (show ¬ L y = y by omega), decide_eq_false]
      intro q
      rw [← q, mn] at h1
      omega
    · rw [if_neg h1]
theorem rp_id : rpN (fun y => y) = 10 := by decide
end NA99
