/-! names: the reference's groups -/
section NC99
/-- one round over the masks -/
def swp (d : Nat → Nat) : Nat → Nat → Nat
  | 0, m => m
  | y + 1, m => if (swp d y m).testBit y = true then swp d y m ||| d y else swp d y m
theorem swp_sub (d : Nat → Nat) (m : Nat) : ∀ y i, m.testBit i = true → (swp d y m).testBit i = true := by
  intro y
  induction y with
  | zero => intro i h; exact h
  | succ y ih =>
    intro i h
    unfold swp
    split
    · rw [Nat.testBit_or, ih i h]; rfl
    · exact ih i h
theorem swp_le (d : Nat → Nat) (m : Nat) : ∀ y z i, y ≤ z → (swp d y m).testBit i = true → (swp d z m).testBit i = true := by
  intro y z
  induction z with
  | zero => intro i hyz h; rw [show y = 0 by omega] at h; exact h
  | succ z ih =>
    intro i hyz h
    by_cases e : y = z + 1
    · rw [e] at h; exact h
    · have q := ih i (by omega) h
      unfold swp
      split
      · rw [Nat.testBit_or, q]; rfl
      · exact q
theorem swp_lt {d : Nat → Nat} {m : Nat} (hd : ∀ y, y < 10 → d y < 1024) (hm : m < 1024) : ∀ y, y ≤ 10 → swp d y m < 1024 := by
  intro y
  induction y with
  | zero => intro _; exact hm
  | succ y ih =>
    intro hy
    unfold swp
    split
    · exact Nat.or_lt_two_pow (n := 10) (ih (by omega)) (hd y (by omega))
    · exact ih (by omega)
/-- a round that adds nothing: closed -/
theorem swp_fix {d : Nat → Nat} {m : Nat} (h : swp d 10 m = m) : ∀ y, y < 10 → m.testBit y = true → ∀ i, (d y).testBit i = true → m.testBit i = true := by
  intro y hy hm i hi
  rw [← h]
  refine swp_le d m (y + 1) 10 i (by omega) ?_
  unfold swp
  rw [if_pos (swp_sub d m y y hm), Nat.testBit_or, hi, Bool.or_true]
theorem swp_in {d : Nat → Nat} {m : Nat} {C : Nat → Prop} (hC : ∀ y, y < 10 → C y → ∀ i, (d y).testBit i = true → C i) (hm : ∀ i, m.testBit i = true → C i) : ∀ y, y ≤ 10 → ∀ i, (swp d y m).testBit i = true → C i := by
  intro y
  induction y with
  | zero => intro _; exact hm
  | succ y ih =>
    intro hy i h
    unfold swp at h
    split at h
    · rename_i hb
      rw [Nat.testBit_or, Bool.or_eq_true] at h
      rcases h with h | h
      · exact ih (by omega) i h
      · exact hC y (by omega) (ih (by omega) y hb) i h
    · exact ih (by omega) i h
def rds (d : Nat → Nat) (m : Nat) : Nat → Nat
  | 0 => m
  | k + 1 => swp d 10 (rds d m k)
theorem rds_lt {d : Nat → Nat} {m : Nat} (hd : ∀ y, y < 10 → d y < 1024) (hm : m < 1024) : ∀ k, rds d m k < 1024 := by
  intro k
  induction k with
  | zero => exact hm
  | succ k ih => exact swp_lt hd ih 10 (Nat.le_refl _)
theorem eq_of_cnt {a b : Nat} (ha : a < 1024) (hb : b < 1024) (hs : ∀ i, a.testBit i = true → b.testBit i = true) (hc : cnS b ≤ cnS a) : a = b := by
  refine Nat.eq_of_testBit_eq fun i => ?_
  by_cases hi : i < 10
  · cases h1 : a.testBit i with
    | true => rw [hs i h1]
    | false =>
      cases h2 : b.testBit i with
      | false => rfl
      | true =>
        have q := cn_lt (c := fun y => a.testBit y) (d := fun y => b.testBit y) hi (fun k _ h => hs k h) h1 h2
        unfold cnS at hc
        omega
  · have p : 2 ^ 10 ≤ 2 ^ i := Nat.pow_le_pow_right (by decide) (show 10 ≤ i by omega)
    have h1 : a.testBit i = false := Nat.testBit_lt_two_pow (Nat.lt_of_lt_of_le ha p)
    have h2 : b.testBit i = false := Nat.testBit_lt_two_pow (Nat.lt_of_lt_of_le hb p)
    rw [h1, h2]
theorem rds_fix {d : Nat → Nat} {m : Nat} (hd : ∀ y, y < 10 → d y < 1024) (hm : m < 1024) (h0 : 1 ≤ cnS m) : swp d 10 (rds d m 10) = rds d m 10 := by
  have key : ∀ k, k ≤ 10 → swp d 10 (rds d m k) = rds d m k ∨ k + 1 ≤ cnS (rds d m k) := by
    intro k
    induction k with
    | zero => intro _; exact Or.inr h0
    | succ k ih =>
      intro hk
      rcases ih (by omega) with h | h
      · refine Or.inl ?_
        have e : rds d m (k + 1) = rds d m k := h
        rw [e]; exact h
      · by_cases q : swp d 10 (rds d m k) = rds d m k
        · refine Or.inl ?_
          have e : rds d m (k + 1) = rds d m k := q
          rw [e]; exact q
        · refine Or.inr ?_
          have lt : cnS (rds d m k) < cnS (rds d m (k + 1)) := by
            rcases Nat.lt_or_ge (cnS (rds d m k)) (cnS (rds d m (k + 1))) with r | r
            · exact r
            · exact absurd (eq_of_cnt (rds_lt hd hm k) (rds_lt hd hm (k + 1)) (fun i h => swp_sub d _ 10 i h) r).symm q
          omega
  rcases key 10 (Nat.le_refl _) with h | h
  · exact h
  · have := cnS_le (rds d m 10)
    omega
end NC99
