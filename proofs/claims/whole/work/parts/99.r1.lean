/-! names: sets that can be one, and colours -/
section NJ99
def OK1 (L f g o : Nat → Nat) (n S : Nat) : Prop := (∀ a b, a < 10 → b < 10 → S.testBit a = true → L b = L a → S.testBit b = true) ∧ ∀ i, i < n → o i = 0 → S.testBit (f i) = true → S.testBit (g i) = true → False
def CV (P : Nat → Prop) : Nat → Nat → Nat → Prop
  | 0, T, k => T = 0 ∧ k = 0
  | S + 1, T, k => CV P S T k ∨ (P (S + 1) ∧ ∃ y j, y &&& (S + 1) = 0 ∧ T = y ||| (S + 1) ∧ k = j + 1 ∧ CV P S y j)
theorem cv_col {L f g o : Nat → Nat} {n : Nat} (hc : ∀ i, i < n → f i < 10 ∧ g i < 10) : ∀ S T k, CV (OK1 L f g o n) S T k → (∀ a b, a < 10 → b < 10 → T.testBit a = true → L b = L a → T.testBit b = true) ∧ ∃ c : Nat → Nat, (∀ a, a < 10 → T.testBit a = true → c a < k) ∧ (∀ a b, a < 10 → b < 10 → T.testBit a = true → T.testBit b = true → L a = L b → c a = c b) ∧ ∀ i, i < n → o i = 0 → T.testBit (f i) = true → T.testBit (g i) = true → c (f i) ≠ c (g i) := by
  intro S
  induction S with
  | zero =>
    intro T k h
    obtain ⟨rfl, rfl⟩ := h
    have z : ∀ a, (0 : Nat).testBit a = true → False := fun a h => by rw [Nat.zero_testBit] at h; cases h
    exact ⟨fun a b _ _ h => (z a h).elim, fun _ => 0, fun a _ h => (z a h).elim, fun a b _ _ h => (z a h).elim, fun i _ _ h => (z _ h).elim⟩
  | succ S ih =>
    intro T k h
    rcases h with h | ⟨hP, y, j, h1, rfl, rfl, h2⟩
    · exact ih T k h
    · obtain ⟨y1, c, c1, c2, c3⟩ := ih y j h2
      obtain ⟨p1, p2⟩ := hP
      have dj : ∀ a, y.testBit a = true → (S + 1).testBit a = true → False := fun a q1 q2 => by
        have q := congrArg (fun z => Nat.testBit z a) h1
        simp only [Nat.testBit_and, q1, q2, Nat.zero_testBit] at q
        cases q
      have tb : ∀ a, (y ||| (S + 1)).testBit a = true ↔ y.testBit a = true ∨ (S + 1).testBit a = true := fun a => by rw [Nat.testBit_or, Bool.or_eq_true]
      refine ⟨fun a b ha hb h e => (tb b).mpr (((tb a).mp h).imp (fun q => y1 a b ha hb q e) (fun q => p1 a b ha hb q e)), fun a => if (S + 1).testBit a = true then j else c a, fun a ha h => ?_, fun a b ha hb h1 h2 e => ?_, fun i hi ho h1 h2 => ?_⟩
      · show (if (S + 1).testBit a = true then j else c a) < j + 1
        by_cases q : (S + 1).testBit a = true
        · rw [if_pos q]; omega
        · rw [if_neg q]
          have := c1 a ha (((tb a).mp h).resolve_right q)
          omega
      · show (if (S + 1).testBit a = true then j else c a) = if (S + 1).testBit b = true then j else c b
        by_cases q : (S + 1).testBit a = true
        · rw [if_pos q, if_pos (p1 a b ha hb q e.symm)]
        · have q2 : ¬ (S + 1).testBit b = true := fun z => q (p1 b a hb ha z e)
          rw [if_neg q, if_neg q2]
          exact c2 a b ha hb (((tb a).mp h1).resolve_right q) (((tb b).mp h2).resolve_right q2) e
      · show (if (S + 1).testBit (f i) = true then j else c (f i)) ≠ if (S + 1).testBit (g i) = true then j else c (g i)
        obtain ⟨hf, hg⟩ := hc i hi
        by_cases q : (S + 1).testBit (f i) = true
        · have q2 : ¬ (S + 1).testBit (g i) = true := fun z => p2 i hi ho q z
          rw [if_pos q, if_neg q2]
          have := c1 (g i) hg (((tb _).mp h2).resolve_right q2)
          omega
        · by_cases q2 : (S + 1).testBit (g i) = true
          · rw [if_neg q, if_pos q2]
            have := c1 (f i) hf (((tb _).mp h1).resolve_right q)
            omega
          · rw [if_neg q, if_neg q2]
            exact c3 i hi ho (((tb _).mp h1).resolve_right q) (((tb _).mp h2).resolve_right q2)
theorem cv_le {P : Nat → Prop} : ∀ S T k, S < 1024 → CV P S T k → k ≤ cnS T := by
  intro S
  induction S with
  | zero => intro T k _ h; obtain ⟨rfl, rfl⟩ := h; exact Nat.zero_le _
  | succ S ih =>
    intro T k hS h
    rcases h with h | ⟨-, y, j, h1, rfl, rfl, h2⟩
    · exact ih T k (by omega) h
    · have q := ih y j (by omega) h2
      have ex : ∃ a, a < 10 ∧ (S + 1).testBit a = true := by
        by_cases hE : ∃ a, a < 10 ∧ (S + 1).testBit a = true
        · exact hE
        · exfalso
          have z : S + 1 = 0 := eq_of_cnt hS (by decide) (fun i h => by
            exfalso
            rcases Nat.lt_or_ge i 10 with q | q
            · exact hE ⟨i, q, h⟩
            · have p : 2 ^ 10 ≤ 2 ^ i := Nat.pow_le_pow_right (by decide) q
              rw [Nat.testBit_lt_two_pow (Nat.lt_of_lt_of_le hS p)] at h
              cases h) (by
            have : cnS 0 = 0 := by decide
            omega)
          omega
      obtain ⟨a, a1, a2⟩ := ex
      have ya : y.testBit a = false := by
        cases hy : y.testBit a with
        | false => rfl
        | true =>
          have q := congrArg (fun z => Nat.testBit z a) h1
          simp only [Nat.testBit_and, hy, a2, Nat.zero_testBit] at q
          cases q
      have q2 := cn_lt (c := fun z => y.testBit z) (d := fun z => (y ||| (S + 1)).testBit z) a1 (fun z _ h => by
        show (y ||| (S + 1)).testBit z = true
        rw [Nat.testBit_or, h]; rfl) ya (by
        show (y ||| (S + 1)).testBit a = true
        rw [Nat.testBit_or, a2, Bool.or_true])
      unfold cnS at q ⊢
      omega
theorem col_cv {L f g o : Nat → Nat} {n k : Nat} (hc : ∀ i, i < n → f i < 10 ∧ g i < 10) (h : COL L f g o n k) : ∃ j, j ≤ k ∧ CV (OK1 L f g o n) 1023 1023 j := by
  obtain ⟨c, c1, c2, c3⟩ := h
  have mb : ∀ i a, (mkF (fun a => decide (c a = i)) 10).testBit a = true ↔ a < 10 ∧ c a = i := fun i a => by
    rw [tb_mk, Bool.and_eq_true, decide_eq_true_eq, decide_eq_true_eq]
  have ml : ∀ i, mkF (fun a => decide (c a = i)) 10 < 1024 := fun i => mkF_lt _ 10
  have key : ∀ S, CV (OK1 L f g o n) S (mkF (fun a => decide (mkF (fun b => decide (c b = c a)) 10 ≤ S)) 10) (cntN (fun i => decide (mkF (fun a => decide (c a = i)) 10 ≠ 0 ∧ mkF (fun a => decide (c a = i)) 10 ≤ S)) k) := by
    intro S
    have ne : ∀ a, a < 10 → mkF (fun b => decide (c b = c a)) 10 ≠ 0 := fun a ha e => by
      have q := (mb (c a) a).mpr ⟨ha, rfl⟩
      rw [e, Nat.zero_testBit] at q
      cases q
    induction S with
    | zero =>
      refine ⟨?_, ?_⟩
      · refine mk_0.mpr ?_
        rw [List.all_eq_true]
        intro a ha
        rw [decide_eq_false (fun q => ne a (List.mem_range.mp ha) (by omega))]; rfl
      · have : cntN (fun i => decide (mkF (fun a => decide (c a = i)) 10 ≠ 0 ∧ mkF (fun a => decide (c a = i)) 10 ≤ 0)) k = cntN (fun _ => false) k := cn_cg fun i _ => decide_eq_false (fun q => q.1 (by omega))
        rw [this]
        have z : ∀ k, cntN (fun _ => false) k = 0 := by
          intro k
          induction k with
          | zero => rfl
          | succ k ih => unfold cntN; rw [if_neg (by decide), ih]
        exact z k
    | succ S ih =>
      by_cases hE : ∃ i, i < k ∧ mkF (fun a => decide (c a = i)) 10 = S + 1
      · obtain ⟨i, i1, i2⟩ := hE
        refine Or.inr ⟨⟨fun a b ha hb q e => ?_, fun j hj ho q1 q2 => ?_⟩, _, _, ?_, ?_, ?_, ih⟩
        · rw [← i2] at q ⊢
          rw [mb] at q ⊢
          exact ⟨hb, (c2 b a hb ha e).trans q.2⟩
        · rw [← i2, mb] at q1 q2
          exact c3 j hj ho (q1.2.trans q2.2.symm)
        · refine Nat.eq_of_testBit_eq fun a => ?_
          rw [Nat.zero_testBit, Nat.testBit_and, tb_mk, ← i2]
          by_cases ha : a < 10
          · by_cases e : c a = i
            · rw [e, i2, decide_eq_false (show ¬ S + 1 ≤ S by omega)]; simp
            · have q : (mkF (fun a => decide (c a = i)) 10).testBit a = false := by
                cases hq : (mkF (fun a => decide (c a = i)) 10).testBit a with
                | false => rfl
                | true => exact absurd ((mb i a).mp hq).2 e
              rw [q, Bool.and_false]
          · rw [decide_eq_false ha]; rfl
        · refine Nat.eq_of_testBit_eq fun a => ?_
          rw [Nat.testBit_or, tb_mk, tb_mk, ← i2]
          by_cases ha : a < 10
          · rw [decide_eq_true ha, Bool.true_and, Bool.true_and]
            by_cases e : c a = i
            · have q : (mkF (fun a => decide (c a = i)) 10).testBit a = true := (mb i a).mpr ⟨ha, e⟩
              rw [q, Bool.or_true, e, decide_eq_true (Nat.le_refl _)]
            · have q : (mkF (fun a => decide (c a = i)) 10).testBit a = false := by
                cases hq : (mkF (fun a => decide (c a = i)) 10).testBit a with
                | false => rfl
                | true => exact absurd ((mb i a).mp hq).2 e
              rw [q, Bool.or_false]
              have nq : mkF (fun b => decide (c b = c a)) 10 ≠ S + 1 := fun z => by
                have q2 := (mb (c a) a).mpr ⟨ha, rfl⟩
                rw [z, ← i2, q] at q2
                cases q2
              rw [i2]
              by_cases le : mkF (fun b => decide (c b = c a)) 10 ≤ S
              · rw [decide_eq_true le, decide_eq_true (by omega)]
              · rw [decide_eq_false le, decide_eq_false (by omega)]
          · have q : (mkF (fun a => decide (c a = i)) 10).testBit a = false := by
              cases hq : (mkF (fun a => decide (c a = i)) 10).testBit a with
              | false => rfl
              | true => exact absurd ((mb i a).mp hq).1 ha
            rw [q, decide_eq_false ha]; rfl
        · refine cn_one i1 (decide_eq_false fun q => by omega) (decide_eq_true ⟨by omega, by omega⟩) fun j hj e => ?_
          have nq : mkF (fun a => decide (c a = j)) 10 ≠ S + 1 := fun z => by
            have ex : ∃ a, a < 10 ∧ c a = i := by
              by_cases hh : ∃ a, a < 10 ∧ c a = i
              · exact hh
              · exfalso
                have z0 : mkF (fun a => decide (c a = i)) 10 = 0 := Nat.eq_of_testBit_eq fun a => by
                  rw [Nat.zero_testBit]
                  cases hq : (mkF (fun a => decide (c a = i)) 10).testBit a with
                  | false => rfl
                  | true => exact absurd ⟨a, (mb i a).mp hq⟩ hh
                omega
            obtain ⟨a, a1, a2⟩ := ex
            have q := (mb i a).mpr ⟨a1, a2⟩
            rw [i2, ← z, mb] at q
            exact e (q.2.symm.trans a2)
          by_cases le : mkF (fun a => decide (c a = j)) 10 ≠ 0 ∧ mkF (fun a => decide (c a = j)) 10 ≤ S
          · rw [decide_eq_true le, decide_eq_true ⟨le.1, by omega⟩]
          · rw [decide_eq_false le, decide_eq_false (fun z => le ⟨z.1, by omega⟩)]
      · have e1 : mkF (fun a => decide (mkF (fun b => decide (c b = c a)) 10 ≤ S + 1)) 10 = mkF (fun a => decide (mkF (fun b => decide (c b = c a)) 10 ≤ S)) 10 := Nat.eq_of_testBit_eq fun a => by
          rw [tb_mk, tb_mk]
          by_cases ha : a < 10
          · have nq : mkF (fun b => decide (c b = c a)) 10 ≠ S + 1 := fun z => hE ⟨c a, c1 a ha, z⟩
            by_cases le : mkF (fun b => decide (c b = c a)) 10 ≤ S
            · rw [decide_eq_true le, decide_eq_true (show mkF (fun b => decide (c b = c a)) 10 ≤ S + 1 by omega)]
            · rw [decide_eq_false le, decide_eq_false (show ¬ mkF (fun b => decide (c b = c a)) 10 ≤ S + 1 by omega)]
          · rw [decide_eq_false ha]; rfl
        have e2 : cntN (fun i => decide (mkF (fun a => decide (c a = i)) 10 ≠ 0 ∧ mkF (fun a => decide (c a = i)) 10 ≤ S + 1)) k = cntN (fun i => decide (mkF (fun a => decide (c a = i)) 10 ≠ 0 ∧ mkF (fun a => decide (c a = i)) 10 ≤ S)) k := cn_cg fun i hi => by
          have nq : mkF (fun a => decide (c a = i)) 10 ≠ S + 1 := fun z => hE ⟨i, hi, z⟩
          by_cases le : mkF (fun a => decide (c a = i)) 10 ≠ 0 ∧ mkF (fun a => decide (c a = i)) 10 ≤ S
          · rw [decide_eq_true le, decide_eq_true ⟨le.1, by omega⟩]
          · rw [decide_eq_false le, decide_eq_false (fun z => le ⟨z.1, by omega⟩)]
        refine Or.inl ?_
        rw [e1, e2]; exact ih
  have q := key 1023
  have e : mkF (fun a => decide (mkF (fun b => decide (c b = c a)) 10 ≤ 1023)) 10 = 1023 := by
    have e1 : (fun a => decide (mkF (fun b => decide (c b = c a)) 10 ≤ 1023)) = fun _ => true := by
      funext a
      have := ml (c a)
      exact decide_eq_true (by omega)
    rw [e1]; decide
  rw [e] at q
  exact ⟨_, (cntF_N _ k).2, q⟩
end NJ99
