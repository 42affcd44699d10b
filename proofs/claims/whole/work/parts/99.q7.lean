/-! names: the class's colours -/
section NG99
def Act (L C : Nat → Nat) (a : Nat) : Prop := L a = a ∧ C a ≠ 0
def Prp (L C c : Nat → Nat) : Prop := ∀ a b, a < 10 → b < 10 → Act L C a → Act L C b → (C a).testBit b = true → c a ≠ c b
def PR (L C : Nat → Nat) (k : Nat) : Prop := ∃ c, Prp L C c ∧ ∀ a, a < 10 → Act L C a → c a < k
def CST (L C : Nat → Nat) (x : Nat) (p c : Nat → Nat) : Prop := ∀ a b, a < x → b < x → Act L C a → Act L C b → (p a = p b ↔ c a = c b)
def PS (L C : Nat → Nat) (x u : Nat) (p : Nat → Nat) : Prop := u ≤ x ∧ x ≤ 10 ∧ (∀ a, a < x → Act L C a → p a < u) ∧ (∀ a b, a < x → b < x → Act L C a → Act L C b → (C a).testBit b = true → p a ≠ p b) ∧ ∀ y, y < u → ∃ a, a < x ∧ Act L C a ∧ p a = y
def MSK (L C : Nat → Nat) (x u : Nat) (p : Nat → Nat) (K : MI) : Prop := ∀ y, y < u → ∃ M, M < 1024 ∧ K 198 y = nn M ∧ ∀ a, a < 10 → (M.testBit a = true ↔ a < x ∧ Act L C a ∧ p a = y)
theorem php {L C p c : Nat → Nat} {x u k : Nat} (h : PS L C x u p) (hk : ∀ a, a < 10 → Act L C a → c a < k) (hc : CST L C x p c) : u ≤ k := by
  obtain ⟨h1, h2, h3, h4, h5⟩ := h
  by_cases hk10 : 10 ≤ k
  · omega
  · have key : ∀ v, v ≤ u → v ≤ cntN (fun z => (List.range 10).any fun a => decide (a < x) && (decide (L a = a ∧ C a ≠ 0) && (decide (p a < v) && decide (c a = z)))) 10 := by
      intro v
      induction v with
      | zero => intro _; omega
      | succ v ih =>
        intro hv
        have q := ih (by omega)
        obtain ⟨a, a1, a2, a3⟩ := h5 v (by omega)
        have q2 := cn_lt (c := fun z => (List.range 10).any fun a => decide (a < x) && (decide (L a = a ∧ C a ≠ 0) && (decide (p a < v) && decide (c a = z)))) (d := fun z => (List.range 10).any fun a => decide (a < x) && (decide (L a = a ∧ C a ≠ 0) && (decide (p a < v + 1) && decide (c a = z)))) (n := 10) (j := c a) (by have := hk a (by omega) a2; omega) (fun z _ hz => by
          rw [List.any_eq_true] at hz ⊢
          obtain ⟨b, b1, b2⟩ := hz
          refine ⟨b, b1, ?_⟩
          simp only [Bool.and_eq_true, decide_eq_true_eq] at b2 ⊢
          exact ⟨b2.1, b2.2.1, by omega, b2.2.2.2⟩) (by
          rw [← Bool.not_eq_true, List.any_eq_true]
          rintro ⟨b, b1, b2⟩
          simp only [Bool.and_eq_true, decide_eq_true_eq] at b2
          have e := (hc b a b2.1 a1 b2.2.1 a2).mpr b2.2.2.2
          omega) (by
          rw [List.any_eq_true]
          refine ⟨a, List.mem_range.mpr (by omega), ?_⟩
          simp only [Bool.and_eq_true, decide_eq_true_eq]
          exact ⟨a1, a2, by omega, trivial⟩)
        omega
    have q := key u (Nat.le_refl _)
    have q2 : cntN (fun z => (List.range 10).any fun a => decide (a < x) && (decide (L a = a ∧ C a ≠ 0) && (decide (p a < u) && decide (c a = z)))) 10 ≤ cntN (fun z => decide (z < k)) 10 := cn_le fun z _ hz => by
      rw [List.any_eq_true] at hz
      obtain ⟨b, b1, b2⟩ := hz
      simp only [Bool.and_eq_true, decide_eq_true_eq] at b2
      have := hk b (List.mem_range.mp b1) b2.2.1
      exact decide_eq_true (by omega)
    have q3 : ∀ k, k < 10 → cntN (fun z => decide (z < k)) 10 = k := by decide
    have := q3 k (by omega)
    omega
/-- one more, with colour y -/
theorem ps_add {L C p : Nat → Nat} {x u y : Nat} (h : PS L C x u p) (hx : x < 10) (hy : y ≤ u) (ha : Act L C x) (sym : ∀ a b, a < 10 → b < 10 → ((C a).testBit b = true ↔ (C b).testBit a = true)) (irr : ∀ a, a < 10 → ¬ (C a).testBit a = true) (hn : ∀ b, b < x → Act L C b → p b = y → ¬ (C x).testBit b = true) : PS L C (x + 1) (max u (y + 1)) (upN p x y) := by
  obtain ⟨h1, h2, h3, h4, h5⟩ := h
  refine ⟨by omega, by omega, fun a a1 a2 => ?_, fun a b a1 b1 a2 b2 h => ?_, fun z hz => ?_⟩
  · by_cases e : a = x
    · rw [e, upN_eq]; omega
    · rw [upN_ne _ _ e]; have := h3 a (by omega) a2; omega
  · by_cases e : a = x
    · by_cases e2 : b = x
      · subst e; subst e2; exact absurd h (irr _ hx)
      · rw [e, upN_eq, upN_ne _ _ e2]
        rw [e] at h
        exact fun q => hn b (by omega) b2 q.symm h
    · by_cases e2 : b = x
      · rw [e2, upN_eq, upN_ne _ _ e]
        rw [e2] at h
        exact fun q => hn a (by omega) a2 q ((sym a x (by omega) hx).mp h)
      · rw [upN_ne _ _ e, upN_ne _ _ e2]; exact h4 a b (by omega) (by omega) a2 b2 h
  · by_cases e : z < u
    · obtain ⟨a, a1, a2, a3⟩ := h5 z e
      exact ⟨a, by omega, a2, by rw [upN_ne _ _ (by omega)]; exact a3⟩
    · exact ⟨x, by omega, ha, by rw [upN_eq]; omega⟩
theorem ps_skip {L C p : Nat → Nat} {x u : Nat} (h : PS L C x u p) (hx : x < 10) (ha : ¬ Act L C x) : PS L C (x + 1) u p := by
  obtain ⟨h1, h2, h3, h4, h5⟩ := h
  have lt : ∀ a, a < x + 1 → Act L C a → a < x := fun a a1 a2 => by
    have : a ≠ x := fun e => ha (by rw [← e]; exact a2)
    omega
  exact ⟨by omega, by omega, fun a a1 a2 => h3 a (lt a a1 a2) a2, fun a b a1 b1 a2 b2 => h4 a b (lt a a1 a2) (lt b b1 b2) a2 b2, fun y hy => by
    obtain ⟨a, a1, a2, a3⟩ := h5 y hy
    exact ⟨a, by omega, a2, a3⟩⟩
/-- a colouring that goes with what is placed, and the next one's colour -/
theorem cst_old {L C p c : Nat → Nat} {x y a : Nat} (h : CST L C x p c) (ha : a < x) (hA : Act L C a) (hp : p a = y) (hc : c a = c x) : CST L C (x + 1) (upN p x y) c := by
  intro d b d1 b1 d2 b2
  by_cases e : d = x
  · by_cases e2 : b = x
    · rw [e, e2]; exact ⟨fun _ => rfl, fun _ => rfl⟩
    · rw [e, upN_eq, upN_ne _ _ e2, ← hp, ← hc]
      exact h a b ha (by omega) hA b2
  · by_cases e2 : b = x
    · rw [e2, upN_eq, upN_ne _ _ e, ← hp, ← hc]
      exact h d a (by omega) ha d2 hA
    · rw [upN_ne _ _ e, upN_ne _ _ e2]; exact h d b (by omega) (by omega) d2 b2
theorem cst_new {L C p c : Nat → Nat} {x u : Nat} (h : CST L C x p c) (hp : ∀ a, a < x → Act L C a → p a < u) (hc : ∀ a, a < x → Act L C a → c a ≠ c x) : CST L C (x + 1) (upN p x u) c := by
  intro d b d1 b1 d2 b2
  by_cases e : d = x
  · by_cases e2 : b = x
    · rw [e, e2]; exact ⟨fun _ => rfl, fun _ => rfl⟩
    · rw [e, upN_eq, upN_ne _ _ e2]
      have q1 := hp b (by omega) b2
      have q2 := hc b (by omega) b2
      exact ⟨fun q => absurd q (by omega), fun q => absurd q.symm q2⟩
  · by_cases e2 : b = x
    · rw [e2, upN_eq, upN_ne _ _ e]
      have q1 := hp d (by omega) d2
      have q2 := hc d (by omega) d2
      exact ⟨fun q => absurd q (by omega), fun q => absurd q q2⟩
    · rw [upN_ne _ _ e, upN_ne _ _ e2]; exact h d b (by omega) (by omega) d2 b2
theorem cst_skip {L C p c : Nat → Nat} {x : Nat} (h : CST L C x p c) (ha : ¬ Act L C x) : CST L C (x + 1) p c := by
  have lt : ∀ a, a < x + 1 → Act L C a → a < x := fun a a1 a2 => by
    have : a ≠ x := fun e => ha (by rw [← e]; exact a2)
    omega
  exact fun d b d1 b1 d2 b2 => h d b (lt d d1 d2) (lt b b1 b2) d2 b2
end NG99
