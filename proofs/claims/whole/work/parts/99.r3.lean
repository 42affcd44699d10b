/-! names: subsets downwards, and the least over sets, pure -/
section NL99
theorem and_dm (a c : Nat) : (a &&& c) / 2 = a / 2 &&& c / 2 ∧ ((a &&& c) % 2 = 1 ↔ a % 2 = 1 ∧ c % 2 = 1) := by
  constructor
  · refine Nat.eq_of_testBit_eq fun i => ?_
    rw [Nat.testBit_and, ← Nat.testBit_succ, ← Nat.testBit_succ, ← Nat.testBit_succ, Nat.testBit_and]
  · have h := Nat.testBit_and a c 0
    rw [Nat.testBit_zero, Nat.testBit_zero, Nat.testBit_zero] at h
    rw [← decide_eq_true_eq (p := (a &&& c) % 2 = 1), h, Bool.and_eq_true, decide_eq_true_eq, decide_eq_true_eq]
theorem sub_pred : ∀ y z c : Nat, y &&& c = y → z &&& c = z → z < y → z ≤ (y - 1) &&& c := by
  intro y
  induction y using Nat.strongRecOn with
  | _ y ih =>
    intro z c hy hz lt
    obtain ⟨y1, y2⟩ := and_dm y c
    obtain ⟨z1, z2⟩ := and_dm z c
    obtain ⟨p1, p2⟩ := and_dm (y - 1) c
    rw [hy] at y1 y2
    rw [hz] at z1 z2
    by_cases b : y % 2 = 1
    · have e : (y - 1) / 2 = y / 2 := by omega
      rw [e, ← y1] at p1
      omega
    · have e : (y - 1) / 2 = y / 2 - 1 := by omega
      rw [e] at p1
      by_cases q : z / 2 < y / 2
      · have := ih (y / 2) (by omega) (z / 2) (c / 2) y1.symm z1.symm q
        omega
      · omega
/-- what a cell says of a set -/
def VAL (P : Nat → Prop) (S T : Nat) (v : Int32) : Prop := (∃ k, k ≤ 10 ∧ v = nn k ∧ CV P S T k ∧ ∀ j, CV P S T j → k ≤ j) ∨ (v = nn 100000000 ∧ ∀ j, ¬ CV P S T j)
theorem val_0 {P : Nat → Prop} {T : Nat} : VAL P 0 T (if T = 0 then 0 else nn 100000000) := by
  by_cases h : T = 0
  · rw [if_pos h]; exact Or.inl ⟨0, by omega, rfl, ⟨h, rfl⟩, fun _ _ => Nat.zero_le _⟩
  · rw [if_neg h]; exact Or.inr ⟨rfl, fun j q => h q.1⟩
theorem val_cg {P : Nat → Prop} {S T : Nat} {v : Int32} (h : ∀ k, CV P (S + 1) T k → CV P S T k) (hv : VAL P S T v) : VAL P (S + 1) T v := by
  rcases hv with ⟨k, k1, k2, k3, k4⟩ | ⟨k1, k2⟩
  · exact Or.inl ⟨k, k1, k2, Or.inl k3, fun j q => k4 j (h j q)⟩
  · exact Or.inr ⟨k1, fun j q => k2 j (h j q)⟩
theorem val_no {P : Nat → Prop} {S T : Nat} {v : Int32} (h : ¬ P (S + 1)) (hv : VAL P S T v) : VAL P (S + 1) T v :=
  val_cg (fun _ q => q.resolve_right fun z => h z.1) hv
/-- a set that does not hold all of this one stays as it was -/
theorem val_ns {P : Nat → Prop} {S T : Nat} {v : Int32} (h : T &&& (S + 1) ≠ S + 1) (hv : VAL P S T v) : VAL P (S + 1) T v := by
  refine val_cg (fun k q => q.resolve_right fun ⟨_, y, j, _, e, _⟩ => h ?_) hv
  rw [e]
  refine Nat.eq_of_testBit_eq fun i => ?_
  rw [Nat.testBit_and, Nat.testBit_or]
  cases y.testBit i <;> cases (S + 1).testBit i <;> rfl
theorem or_dj {y z s : Nat} (h1 : y &&& s = 0) (h2 : z &&& s = 0) (h : y ||| s = z ||| s) : y = z := by
  refine Nat.eq_of_testBit_eq fun i => ?_
  have q := congrArg (fun x => Nat.testBit x i) h
  have q1 := congrArg (fun x => Nat.testBit x i) h1
  have q2 := congrArg (fun x => Nat.testBit x i) h2
  simp only [Nat.testBit_or, Nat.testBit_and, Nat.zero_testBit] at q q1 q2
  revert q q1 q2
  cases y.testBit i <;> cases z.testBit i <;> cases s.testBit i <;> simp
theorem val_st {P : Nat → Prop} {S y : Nat} {v w : Int32} (hS : S + 1 < 1024) (hP : P (S + 1)) (hy : y &&& (S + 1) = 0) (h1 : VAL P S (y ||| (S + 1)) v) (h2 : VAL P S y w) : VAL P (S + 1) (y ||| (S + 1)) (if v < w + 1 then v else w + 1) := by
  have mk : ∀ j, CV P S y j → CV P (S + 1) (y ||| (S + 1)) (j + 1) := fun j q => Or.inr ⟨hP, y, j, hy, rfl, rfl, q⟩
  have un : ∀ k, CV P (S + 1) (y ||| (S + 1)) k → CV P S (y ||| (S + 1)) k ∨ ∃ j, k = j + 1 ∧ CV P S y j := fun k q => by
    rcases q with q | ⟨_, z, j, z1, z2, z3, z4⟩
    · exact Or.inl q
    · have e := or_dj hy z1 z2
      exact Or.inr ⟨j, z3, by rw [e]; exact z4⟩
  have le10 : ∀ k, CV P (S + 1) (y ||| (S + 1)) k → k ≤ 10 := fun k q => by
    have q1 := cv_le _ _ _ hS q
    have q2 := (cntF_N (fun z => (y ||| (S + 1)).testBit z) 10).2
    unfold cnS at q1
    omega
  rcases h2 with ⟨k2, a1, rfl, a2, a3⟩ | ⟨rfl, a2⟩
  · rw [nn_s]
    rcases h1 with ⟨k1, b1, rfl, b2, b3⟩ | ⟨rfl, b2⟩
    · by_cases q : k1 < k2 + 1
      · rw [if_pos ((nn_lt (by omega) (by omega)).mpr q)]
        refine Or.inl ⟨k1, b1, rfl, Or.inl b2, fun j hj => ?_⟩
        rcases un j hj with hh | ⟨i, rfl, hh⟩
        · exact b3 j hh
        · have := a3 i hh; omega
      · rw [if_neg fun z => q ((nn_lt (by omega) (by omega)).mp z)]
        refine Or.inl ⟨k2 + 1, le10 _ (mk _ a2), rfl, mk _ a2, fun j hj => ?_⟩
        rcases un j hj with hh | ⟨i, rfl, hh⟩
        · have := b3 j hh; omega
        · have := a3 i hh; omega
    · rw [if_neg fun z => by have := (nn_lt (j := 100000000) (k := k2 + 1) (by omega) (by omega)).mp z; omega]
      refine Or.inl ⟨k2 + 1, le10 _ (mk _ a2), rfl, mk _ a2, fun j hj => ?_⟩
      rcases un j hj with hh | ⟨i, rfl, hh⟩
      · exact absurd hh (b2 j)
      · have := a3 i hh; omega
  · rw [nn_s]
    rcases h1 with ⟨k1, b1, rfl, b2, b3⟩ | ⟨rfl, b2⟩
    · rw [if_pos ((nn_lt (by omega) (by omega)).mpr (show k1 < 100000000 + 1 by omega))]
      refine Or.inl ⟨k1, b1, rfl, Or.inl b2, fun j hj => ?_⟩
      rcases un j hj with hh | ⟨i, rfl, hh⟩
      · exact b3 j hh
      · exact absurd hh (a2 i)
    · rw [if_pos ((nn_lt (by omega) (by omega)).mpr (show 100000000 < 100000000 + 1 by omega))]
      refine Or.inr ⟨rfl, fun j hj => ?_⟩
      rcases un j hj with hh | ⟨i, rfl, hh⟩
      · exact b2 j hh
      · exact a2 i hh
end NL99
