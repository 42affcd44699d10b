/-! text: letters and digits -/
section TA99
def digC (x : Int32) : Bool := decide (¬ x < 48 ∧ ¬ 57 < x)
def letC (x : Int32) : Bool := decide ((¬ x < 97 ∧ ¬ 122 < x) ∨ (¬ x < 65 ∧ ¬ 90 < x))
theorem dig_A (x : Int32) : F_Reader_isDigit x = rt (if digC x = true then 1 else 0) := by
  unfold F_Reader_isDigit digC
  by_cases h1 : x < 48
  · simp only [if_pos h1, gdZ0, bn_rt, decide_eq_true_eq]
    rw [if_neg fun q => q.1 h1]
  · by_cases h2 : 57 < x
    · simp only [if_neg h1, if_pos h2, gdZ0, bn_rt, decide_eq_true_eq]
      rw [if_neg fun q => q.2 h2]
    · simp only [if_neg h1, if_neg h2, gdZ1, bn_rt, decide_eq_true_eq]
      rw [if_pos ⟨h1, h2⟩]
theorem dig_R (x : Int32) : F_R_isDigit x = rt (if digC x = true then 1 else 0) := by
  unfold F_R_isDigit digC
  by_cases h : x < 48 ∨ 57 < x
  · rw [ri_out h, bn_rt, gdZ0, bn_rt, if_neg fun q => by
      have q := of_decide_eq_true q
      rcases h with h | h
      · exact q.1 h
      · exact q.2 h]
  · have h1 : ¬ x < 48 := fun q => h (Or.inl q)
    have h2 : ¬ 57 < x := fun q => h (Or.inr q)
    rw [ri_in h1 h2, bn_rt, gdZ1, bn_rt, if_pos (decide_eq_true ⟨h1, h2⟩)]
theorem let_A (x : Int32) : F_Reader_isLetter x = rt (if letC x = true then 1 else 0) := by
  unfold F_Reader_isLetter letC
  by_cases h1 : x < 97 <;> by_cases h2 : 122 < x <;> by_cases h3 : x < 65 <;> by_cases h4 : 90 < x <;> simp [h1, h2, h3, h4, gdZ0, gdZ1, bn_rt]
theorem let_R (x : Int32) : F_R_isLetter x = rt (if letC x = true then 1 else 0) := by
  unfold F_R_isLetter letC
  by_cases h : x < 97 ∨ 122 < x
  · have n1 : ¬ (¬ x < 97 ∧ ¬ 122 < x) := fun q => by
      rcases h with h | h
      · exact q.1 h
      · exact q.2 h
    rw [ri_out h, bn_rt, if_pos rfl]
    by_cases g : x < 65 ∨ 90 < x
    · have n2 : ¬ (¬ x < 65 ∧ ¬ 90 < x) := fun q => by
        rcases g with g | g
        · exact q.1 g
        · exact q.2 g
      rw [ri_out g, bn_rt, if_pos rfl, gdZ0, bn_rt, if_neg fun q => (of_decide_eq_true q).elim n1 n2]
    · have g1 : ¬ x < 65 := fun q => g (Or.inl q)
      have g2 : ¬ 90 < x := fun q => g (Or.inr q)
      rw [ri_in g1 g2, bn_rt, if_neg one_ne, gdZ1, bn_rt, if_pos (decide_eq_true (Or.inr ⟨g1, g2⟩))]
  · have h1 : ¬ x < 97 := fun q => h (Or.inl q)
    have h2 : ¬ 122 < x := fun q => h (Or.inr q)
    rw [ri_in h1 h2, bn_rt, if_neg one_ne, gdZ1, bn_rt, if_pos (decide_eq_true (Or.inl ⟨h1, h2⟩))]
end TA99
