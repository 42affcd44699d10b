/-! names: the class's least number -/
section NI99
/-- so many names do for all -/
def COL (L f g o : Nat → Nat) (n k : Nat) : Prop := ∃ c : Nat → Nat, (∀ y, y < 10 → c y < k) ∧ (∀ a b, a < 10 → b < 10 → L a = L b → c a = c b) ∧ ∀ i, i < n → o i = 0 → c (f i) ≠ c (g i)
theorem col_pr {L C f g o : Nat → Nat} {n k : Nat} (hL : LOK L) (hc : ∀ i, i < n → f i < 10 ∧ g i < 10) (hC : ∀ s, s < 10 → ∀ b, b < 10 → ((C s).testBit b = true ↔ ∃ i, i < n ∧ o i = 0 ∧ ((L (f i) = s ∧ L (g i) = b) ∨ (L (g i) = s ∧ L (f i) = b)))) (h : COL L f g o n k) : PR L C k := by
  obtain ⟨c, c1, c2, c3⟩ := h
  refine ⟨c, fun a b ha hb hA hB hq => ?_, fun a ha _ => c1 a ha⟩
  obtain ⟨i, i1, i2, i3⟩ := (hC a ha b hb).mp hq
  obtain ⟨hf, hg⟩ := hc i i1
  have q := c3 i i1 i2
  rcases i3 with ⟨e1, e2⟩ | ⟨e1, e2⟩
  · have h1 := c2 (f i) a hf ha (by rw [hA.1]; exact e1)
    have h2 := c2 (g i) b hg hb (by rw [hB.1]; exact e2)
    rw [h1, h2] at q; exact q
  · have h1 := c2 (g i) a hg ha (by rw [hA.1]; exact e1)
    have h2 := c2 (f i) b hf hb (by rw [hB.1]; exact e2)
    rw [h1, h2] at q; exact fun z => q z.symm
theorem pr_col {L C f g o : Nat → Nat} {n k : Nat} (hk : 1 ≤ k) (hL : LOK L) (hc : ∀ i, i < n → f i < 10 ∧ g i < 10) (hC : ∀ s, s < 10 → ∀ b, b < 10 → ((C s).testBit b = true ↔ ∃ i, i < n ∧ o i = 0 ∧ ((L (f i) = s ∧ L (g i) = b) ∨ (L (g i) = s ∧ L (f i) = b)))) (h : PR L C k) : COL L f g o n k := by
  obtain ⟨c, c1, c2⟩ := h
  refine ⟨fun y => if C (L y) = 0 then 0 else c (L y), fun y hy => ?_, fun a b _ _ e => ?_, fun i hi ho => ?_⟩
  · show (if C (L y) = 0 then 0 else c (L y)) < k
    obtain ⟨y1, y2, -⟩ := hL y hy
    by_cases e : C (L y) = 0
    · rw [if_pos e]; omega
    · rw [if_neg e]; exact c2 (L y) y1 ⟨y2, e⟩
  · show (if C (L a) = 0 then 0 else c (L a)) = if C (L b) = 0 then 0 else c (L b)
    rw [e]
  · show (if C (L (f i)) = 0 then 0 else c (L (f i))) ≠ if C (L (g i)) = 0 then 0 else c (L (g i))
    obtain ⟨hf, hg⟩ := hc i hi
    obtain ⟨f1, f2, -⟩ := hL (f i) hf
    obtain ⟨g1, g2, -⟩ := hL (g i) hg
    have t1 : (C (L (f i))).testBit (L (g i)) = true := (hC _ f1 _ g1).mpr ⟨i, hi, ho, Or.inl ⟨rfl, rfl⟩⟩
    have t2 : (C (L (g i))).testBit (L (f i)) = true := (hC _ g1 _ f1).mpr ⟨i, hi, ho, Or.inr ⟨rfl, rfl⟩⟩
    have n1 : C (L (f i)) ≠ 0 := fun e => by rw [e, Nat.zero_testBit] at t1; cases t1
    have n2 : C (L (g i)) ≠ 0 := fun e => by rw [e, Nat.zero_testBit] at t2; cases t2
    rw [if_neg n1, if_neg n2]
    exact c1 _ _ f1 g1 ⟨f2, n1⟩ ⟨g2, n2⟩ t1
theorem named_A {I : MI} {n : Nat} {f g o : Nat → Nat} (hn : n ≤ 12) (w29 : I 29 0 = nn 3) (h29 : I 29 3 = nn n) (hc : ∀ i, i < n → f i < 10 ∧ g i < 10 ∧ f i ≠ g i ∧ o i < 2 ∧ I 30 (3 * i) = nn (f i) ∧ I 30 (3 * i + 1) = nn (g i) ∧ I 30 (3 * i + 2) = nn (o i)) : Ok F_Riddles_fewestNamed I fun v K => (∀ a, a ≠ 195 → a ≠ 196 → a ≠ 197 → a ≠ 198 → K a = I a) ∧ ((v = -1 ∧ ¬ CBE (LL f g o n) f g o n) ∨ (CBE (LL f g o n) f g o n ∧ ∃ k, 1 ≤ k ∧ k ≤ 10 ∧ v = nn k ∧ COL (LL f g o n) f g o n k ∧ ∀ j, COL (LL f g o n) f g o n j → k ≤ j)) := by
  have lok := LL_ok (f := f) (g := g) (o := o) (n := n) (fun i hi => ⟨(hc i hi).1, (hc i hi).2.1⟩) n (Nat.le_refl _)
  have hc2 : ∀ i, i < n → f i < 10 ∧ g i < 10 := fun i hi => ⟨(hc i hi).1, (hc i hi).2.1⟩
  have cb := canbe_A hn w29 h29 hc
  generalize LL f g o n = L at *
  unfold F_Riddles_fewestNamed
  rw [ok_bn]
  refine ok_mono cb fun v K q => ?_
  obtain ⟨k1, k2, k3⟩ := q
  rcases k3 with ⟨rfl, hE, hM⟩ | ⟨rfl, hE⟩
  · have ex : ∃ C : Nat → Nat, ∀ s, s < 10 → C s < 1024 ∧ K 197 s = nn (C s) ∧ ∀ b, b < 10 → ((C s).testBit b = true ↔ ∃ i, i < n ∧ o i = 0 ∧ ((L (f i) = s ∧ L (g i) = b) ∨ (L (g i) = s ∧ L (f i) = b))) := by
      refine ⟨fun s => if h : s < 10 then (hM s h).choose else 0, fun s hs => ?_⟩
      have e : (fun s => if h : s < 10 then (hM s h).choose else 0) s = (hM s hs).choose := dif_pos hs
      rw [e]
      exact (hM s hs).choose_spec
    obtain ⟨C, hC⟩ := ex
    have sym : ∀ a b, a < 10 → b < 10 → ((C a).testBit b = true ↔ (C b).testBit a = true) := fun a b ha hb => by
      rw [(hC a ha).2.2 b hb, (hC b hb).2.2 a ha]
      exact ⟨fun ⟨i, i1, i2, i3⟩ => ⟨i, i1, i2, i3.elim (fun h => Or.inr ⟨h.2, h.1⟩) (fun h => Or.inl ⟨h.2, h.1⟩)⟩, fun ⟨i, i1, i2, i3⟩ => ⟨i, i1, i2, i3.elim (fun h => Or.inr ⟨h.2, h.1⟩) (fun h => Or.inl ⟨h.2, h.1⟩)⟩⟩
    have irr : ∀ a, a < 10 → ¬ (C a).testBit a = true := fun a ha h => by
      obtain ⟨i, i1, i2, i3⟩ := ((hC a ha).2.2 a ha).mp h
      have q := hE i i1 i2
      rcases i3 with ⟨e1, e2⟩ | ⟨e1, e2⟩
      · exact q (e1.trans e2.symm)
      · exact q (e2.trans e1.symm)
    have hld : ∀ y, y < 10 → C y ≠ 0 → L y = y := fun s hs hne => by
      have hb : ∃ b, b < 10 ∧ (C s).testBit b = true := by
        refine Decidable.byContradiction fun hno => hne (Nat.eq_of_testBit_eq fun b => ?_)
        rw [Nat.zero_testBit]
        by_cases hb : b < 10
        · cases hq : (C s).testBit b with
          | false => rfl
          | true => exact absurd ⟨b, hb, hq⟩ hno
        · have p : 2 ^ 10 ≤ 2 ^ b := Nat.pow_le_pow_right (by decide) (by omega)
          exact Nat.testBit_lt_two_pow (Nat.lt_of_lt_of_le (hC s hs).1 p)
      obtain ⟨b, hb, hq⟩ := hb
      obtain ⟨i, i1, i2, i3⟩ := ((hC s hs).2.2 b hb).mp hq
      rcases i3 with ⟨e1, e2⟩ | ⟨e1, e2⟩
      · rw [← e1]; exact (lok (f i) (hc2 i i1).1).2.1
      · rw [← e1]; exact (lok (g i) (hc2 i i1).2).2.1
    have pl := place_ok (L := L) (C := C) (I0 := K) (fun y hy => ⟨k2 y hy, (lok y hy).1⟩) (fun y hy => ⟨(hC y hy).2.1, (hC y hy).1⟩) sym irr hld 13 0 0 (fun _ => 0) (bup K 195 (upd (K 195) 4 10)) 10 (by decide) ⟨Nat.le_refl _, by decide, fun a h => absurd h (by omega), fun a b h => absurd h (by omega), fun y h => absurd h (by omega)⟩ (Nat.le_refl _) (fun a n1 n2 => bup_ne _ _ n1) (by rw [bup_eq, upd_eq]; rfl) (fun y h => absurd h (by omega))
    obtain ⟨_, K2, p1, p2, -, b2, p3, p4, p5, p6⟩ := pl
    have p1' : F_Riddles_placeName 0 0 (bup K 195 (upd (K 195) 4 10)) = some (_, K2) := p1
    have pr : PR L C b2 := by
      rcases p5 with rfl | p5
      · exact ⟨fun a => a, fun a b ha hb hA hB hq e => by
          have e : a = b := e
          subst e
          exact irr a ha hq, fun a ha _ => ha⟩
      · exact p5
    have mn : ∀ j, PR L C j → b2 ≤ j := fun j ⟨c, c1, c2⟩ => p6 j c c1 c2 (fun a b h => absurd h (by omega))
    have em : (if (1 : Int32) < nn b2 then nn b2 else 1) = nn (max 1 b2) := by
      by_cases q : 1 < b2
      · rw [if_pos (show (1 : Int32) < nn b2 from (nn_lt (j := 1) (by omega) (by omega)).mpr q), Nat.max_eq_right (by omega)]
      · rw [if_neg (show ¬ (1 : Int32) < nn b2 from fun z => q ((nn_lt (j := 1) (by omega) (by omega)).mp z)), Nat.max_eq_left (by omega)]; rfl
    have hCC : ∀ s, s < 10 → ∀ b, b < 10 → ((C s).testBit b = true ↔ ∃ i, i < n ∧ o i = 0 ∧ ((L (f i) = s ∧ L (g i) = b) ∨ (L (g i) = s ∧ L (f i) = b))) := fun s hs b hb => (hC s hs).2.2 b hb
    rw [ok_ite, if_neg one_ne, ok_bn, ok_wr, ok_bn, ok_eq p1', ok_bn, ok_rd, p4, em, ok_rt]
    refine ⟨fun a n1 n2 n3 n4 => (p2 a n1 n4).trans (k1 a n2 n3), Or.inr ⟨hE, max 1 b2, by omega, by omega, rfl, ?_, fun j hj => ?_⟩⟩
    · refine pr_col (by omega) lok hc2 hCC ?_
      obtain ⟨c, c1, c2⟩ := pr
      exact ⟨c, c1, fun a ha hA => by have := c2 a ha hA; omega⟩
    · have h1 := mn j (col_pr lok hc2 hCC hj)
      obtain ⟨c, c1, -, -⟩ := hj
      have := c1 0 (by decide)
      omega
  · rw [ok_ite, if_pos rfl, ok_rt]
    exact ⟨fun a n1 n2 n3 n4 => k1 a n2 n3, Or.inl ⟨rfl, hE⟩⟩
end NI99
