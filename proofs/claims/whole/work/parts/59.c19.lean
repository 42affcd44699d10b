/-! settled: the fewest gifts, as numbers -/
section SC19
def sS (v : Nat → Int32) (x : Nat) : Nat → Int32
  | 0 => 0
  | k + 1 => if x.testBit k = true then sS v x k + v k else sS v x k
def bM (E : Nat → Nat) (x : Nat) : Nat → Nat
  | 0 => 0
  | k + 1 => if x.testBit k = true then max (bM E x k) (E (x ^^^ 2 ^ k)) else bM E x k
def zC (x Z : Nat) : Nat → Nat
  | 0 => 0
  | k + 1 => if (x.testBit k && !Z.testBit k) = true then zC x Z k + 1 else zC x Z k
theorem bM_le {E : Nat → Nat} {x B : Nat} : ∀ {k : Nat}, bM E x k ≤ B ↔ ∀ i, i < k → x.testBit i = true → E (x ^^^ 2 ^ i) ≤ B := by
  intro k
  induction k with
  | zero => exact ⟨fun _ i hi => absurd hi (by omega), fun _ => Nat.zero_le _⟩
  | succ k ih =>
    unfold bM
    by_cases h : x.testBit k = true
    · rw [if_pos h]
      constructor
      · intro q i hi hx
        by_cases hk : i = k
        · subst hk; omega
        · exact ih.mp (by omega) i (by omega) hx
      · intro q
        have a := q k (by omega) h
        have b := ih.mpr fun i hi hx => q i (by omega) hx
        omega
    · rw [if_neg h]
      constructor
      · intro q i hi hx
        by_cases hk : i = k
        · subst hk; exact absurd hx h
        · exact ih.mp q i (by omega) hx
      · intro q
        exact ih.mpr fun i hi hx => q i (by omega) hx
theorem sS_and {v : Nat → Int32} {x Z : Nat} : ∀ {k : Nat}, (∀ i, i < k → Z.testBit i = false → v i = 0) → sS v x k = sS v (x &&& Z) k := by
  intro k
  induction k with
  | zero => intro _; rfl
  | succ k ih =>
    intro h
    unfold sS
    rw [ih (fun i hi => h i (by omega)), Nat.testBit_and]
    cases hx : x.testBit k
    · simp
    · cases hz : Z.testBit k
      · simp [h k (by omega) hz]
      · simp
def zOK (x Z k : Nat) : Bool := !x.testBit k || (decide (x ^^^ 2 ^ k < x) && (if Z.testBit k = true then decide ((x ^^^ 2 ^ k) &&& Z = (x &&& Z) ^^^ 2 ^ k) && decide (zC (x ^^^ 2 ^ k) Z 6 = zC x Z 6) else decide ((x ^^^ 2 ^ k) &&& Z = x &&& Z) && decide (zC (x ^^^ 2 ^ k) Z 6 + 1 = zC x Z 6)))
theorem z_all : (List.range 64).all (fun x => (List.range 64).all fun Z => (List.range 6).all fun k => zOK x Z k) = true := by decide +kernel
theorem z_at {x Z k : Nat} (hx : x < 64) (hZ : Z < 64) (hk : k < 6) (hb : x.testBit k = true) : x ^^^ 2 ^ k < x ∧ (Z.testBit k = true → (x ^^^ 2 ^ k) &&& Z = (x &&& Z) ^^^ 2 ^ k ∧ zC (x ^^^ 2 ^ k) Z 6 = zC x Z 6) ∧ (Z.testBit k = false → (x ^^^ 2 ^ k) &&& Z = x &&& Z ∧ zC (x ^^^ 2 ^ k) Z 6 + 1 = zC x Z 6) := by
  have h := List.all_eq_true.mp (List.all_eq_true.mp (List.all_eq_true.mp z_all x (List.mem_range.mpr hx)) Z (List.mem_range.mpr hZ)) k (List.mem_range.mpr hk)
  unfold zOK at h
  rw [hb] at h
  have h2 : (decide (x ^^^ 2 ^ k < x) && (if Z.testBit k = true then decide ((x ^^^ 2 ^ k) &&& Z = (x &&& Z) ^^^ 2 ^ k) && decide (zC (x ^^^ 2 ^ k) Z 6 = zC x Z 6) else decide ((x ^^^ 2 ^ k) &&& Z = x &&& Z) && decide (zC (x ^^^ 2 ^ k) Z 6 + 1 = zC x Z 6))) = true := h
  obtain ⟨h3, h4⟩ := and_mp h2
  refine ⟨of_decide_eq_true h3, fun hz => ?_, fun hz => ?_⟩
  · rw [if_pos hz] at h4
    exact ⟨of_decide_eq_true (and_mp h4).1, of_decide_eq_true (and_mp h4).2⟩
  · rw [if_neg (by rw [hz]; decide)] at h4
    exact ⟨of_decide_eq_true (and_mp h4).1, of_decide_eq_true (and_mp h4).2⟩
theorem some_bit : ∀ x, x < 64 → x ≠ 0 → ∃ k, k < 6 ∧ x.testBit k = true := by decide +kernel
theorem and_lt {x Z : Nat} (hx : x < 64) : x &&& Z < 64 := Nat.lt_of_le_of_lt Nat.and_le_left hx
theorem sS_0 {v : Nat → Int32} : ∀ k, sS v 0 k = 0 := by
  intro k
  induction k with
  | zero => rfl
  | succ k ih => unfold sS; rw [Nat.zero_testBit, ih]; rfl
theorem bM_0 {E : Nat → Nat} : ∀ k, bM E 0 k = 0 := by
  intro k
  induction k with
  | zero => rfl
  | succ k ih => unfold bM; rw [Nat.zero_testBit, ih]; rfl
theorem gifts {v : Nat → Int32} {E F : Nat → Nat} {Z : Nat} (hZ : Z < 64) (hv : ∀ i, i < 6 → Z.testBit i = false → v i = 0) (hE0 : E 0 = 0) (hE : ∀ x, x < 64 → x ≠ 0 → E x = bM E x 6 + if sS v x 6 = 0 then 1 else 0) (hF0 : F 0 = 0) (hF : ∀ s, s < 64 → s ≠ 0 → s &&& Z = s → F s = bM F s 6 + if sS v s 6 = 0 then 1 else 0) : ∀ x, x < 64 → E x = F (x &&& Z) + zC x Z 6 := by
  intro x
  induction x using Nat.strongRecOn with
  | ind x ih =>
    intro hx
    by_cases x0 : x = 0
    · subst x0
      have : ∀ Z, Z < 64 → zC 0 Z 6 = 0 := by decide +kernel
      rw [hE0, Nat.zero_and, hF0, this Z hZ]
    · rw [hE x hx x0, sS_and hv]
      have ii : ∀ i, i < 6 → x.testBit i = true → E (x ^^^ 2 ^ i) = F ((x ^^^ 2 ^ i) &&& Z) + zC (x ^^^ 2 ^ i) Z 6 := fun i hi hb => ih _ (z_at hx hZ hi hb).1 (by have := (z_at hx hZ hi hb).1; omega)
      by_cases m0 : x &&& Z = 0
      · rw [m0, sS_0, if_pos rfl, hF0]
        obtain ⟨k, hk, hb⟩ := some_bit x hx x0
        have all : ∀ i, i < 6 → x.testBit i = true → E (x ^^^ 2 ^ i) + 1 = zC x Z 6 := fun i hi hb => by
          have nz : Z.testBit i = false := by
            have := congrArg (fun n => n.testBit i) m0
            simp only [Nat.testBit_and, Nat.zero_testBit, hb, Bool.true_and] at this
            exact this
          have q := (z_at hx hZ hi hb).2.2 nz
          rw [ii i hi hb, q.1, m0, hF0]
          omega
        have up := (bM_le (E := E) (x := x) (B := zC x Z 6 - 1) (k := 6)).mpr fun i hi hb => by have := all i hi hb; omega
        have lo := (bM_le (E := E) (x := x) (B := bM E x 6) (k := 6)).mp (Nat.le_refl _) k hk hb
        have := all k hk hb
        omega
      · have hm : x &&& Z < 64 := and_lt hx
        rw [hF _ hm m0 (by rw [Nat.and_assoc, Nat.and_self])]
        obtain ⟨k, hk, hb⟩ := some_bit _ hm m0
        have d1 : (if sS v (x &&& Z) 6 = 0 then 1 else 0) ≤ 1 := by split <;> omega
        have hFm := hF _ hm m0 (by rw [Nat.and_assoc, Nat.and_self])
        have up := (bM_le (E := E) (x := x) (B := bM F (x &&& Z) 6 + zC x Z 6) (k := 6)).mpr fun i hi hb => by
          have q := z_at hx hZ hi hb
          rw [ii i hi hb]
          cases hz : Z.testBit i with
          | false =>
            rw [(q.2.2 hz).1, hFm]
            have := (q.2.2 hz).2
            omega
          | true =>
            rw [(q.2.1 hz).1, (q.2.1 hz).2]
            have := (bM_le (E := F) (x := x &&& Z) (B := bM F (x &&& Z) 6) (k := 6)).mp (Nat.le_refl _) i hi (by rw [Nat.testBit_and, hb, hz]; rfl)
            omega
        have lo : ∀ i, i < 6 → (x &&& Z).testBit i = true → F ((x &&& Z) ^^^ 2 ^ i) + zC x Z 6 ≤ bM E x 6 := fun i hi hb => by
          rw [Nat.testBit_and] at hb
          obtain ⟨hb1, hz⟩ := and_mp hb
          have q := z_at hx hZ hi hb1
          have := (bM_le (E := E) (x := x) (B := bM E x 6) (k := 6)).mp (Nat.le_refl _) i hi hb1
          rw [ii i hi hb1, (q.2.1 hz).1, (q.2.1 hz).2] at this
          exact this
        have lo2 := (bM_le (E := F) (x := x &&& Z) (B := bM E x 6 - zC x Z 6) (k := 6)).mpr fun i hi hb => by have := lo i hi hb; omega
        have := lo k hk hb
        omega
end SC19
