/-! names: how many groups, and whether they can be -/
section NE99
def GRP (L : Nat → Nat) (J : MI) : Prop := ∀ a, a < 10 → ∃ M, M < 1024 ∧ F_R_groupOf (nn a) J = some (nn M, J) ∧ ∀ b, b < 10 → (M.testBit b = true ↔ L b = L a)
theorem groups_R {J : MI} {L : Nat → Nat} (hL : LOK L) (h : GRP L J) : F_R_groups J = some (nn (rpN L), J) := by
  have hO : Ok F_R_groups J fun v K => v = nn (rpN L) ∧ K = J := by
    unfold F_R_groups K_R_groups_6
    refine ok_lp (fun y x K => K = J ∧ ∃ U, U < 1024 ∧ x = (nn (cntN (fun z => decide (L z = z)) y), nn U, nn y) ∧ ∀ b, b < 10 → (U.testBit b = true ↔ ∃ c, c < y ∧ L b = L c)) 10 (fun y x K hy hP => ?_) (fun x K hP => ?_) FU (0, 0, 0) J (by rw [FU_eq]; omega) ⟨rfl, 0, by decide, rfl, fun b _ => ⟨(fun q => by rw [Nat.zero_testBit] at q; cases q), (fun ⟨c, q, _⟩ => absurd q (by omega))⟩⟩
    · obtain ⟨rfl, U, hU, rfl, hb⟩ := hP
      obtain ⟨M, m1, m2, m3⟩ := h y hy
      have gy : nn y < 10 := (nn_lt (k := 10) (by omega) (by omega)).mpr hy
      have c10 := (cntF_N (fun z => decide (L z = z)) y).2
      have iff : U.testBit y = true ↔ ¬ L y = y := by
        rw [hb y hy]
        obtain ⟨y1, y2, y3⟩ := hL y hy
        constructor
        · rintro ⟨c, c1, c2⟩ e
          obtain ⟨-, -, c3⟩ := hL c (by omega)
          omega
        · intro e
          exact ⟨L y, by omega, y2.symm⟩
      have nx : ∀ b, b < 10 → ((U ||| M).testBit b = true ↔ ∃ c, c < y + 1 ∧ L b = L c) := fun b hb2 => by
        rw [Nat.testBit_or, Bool.or_eq_true, hb b hb2, m3 b hb2]
        constructor
        · rintro (⟨c, c1, c2⟩ | e)
          · exact ⟨c, by omega, c2⟩
          · exact ⟨y, by omega, e⟩
        · rintro ⟨c, c1, c2⟩
          by_cases e : c = y
          · subst e; exact Or.inr c2
          · exact Or.inl ⟨c, by omega, c2⟩
      have UM : U ||| M < 1024 := Nat.or_lt_two_pow (n := 10) hU m1
      have sc : cntN (fun z => decide (L z = z)) (y + 1) = if decide (L y = y) = true then cntN (fun z => decide (L z = z)) y + 1 else cntN (fun z => decide (L z = z)) y := rfl
      have st : B_R_groups_6 (nn (cntN (fun z => decide (L z = z)) y), nn U, nn y) K = some (.inl (nn (cntN (fun z => decide (L z = z)) (y + 1)), nn (U ||| M), nn (y + 1)), K) := by
        have hO : Ok (B_R_groups_6 (nn (cntN (fun z => decide (L z = z)) y), nn U, nn y)) K fun r K2 => r = .inl (nn (cntN (fun z => decide (L z = z)) (y + 1)), nn (U ||| M), nn (y + 1)) ∧ K2 = K := by
          rw [sc]
          generalize cntN (fun z => decide (L z = z)) y = c at *
          unfold B_R_groups_6
          simp only [ok_ite, if_pos gy, ok_bn, has_nn (show U < 2 ^ 31 by omega) (show y < 31 by omega), ok_rt, nn_s, ok_eq m2, or_nn (show U < 2 ^ 31 by omega) (show M < 2 ^ 31 by omega)]
          by_cases e : L y = y
          · have hf : ¬ U.testBit y = true := fun q => iff.mp q e
            simp only [if_neg hf, if_true, decide_eq_true e, and_self]
          · have hf : U.testBit y = true := iff.mpr e
            have nd : ¬ decide (L y = y) = true := fun q => e (of_decide_eq_true q)
            simp only [if_pos hf, if_neg one_ne, if_neg nd, and_self]
        obtain ⟨r, K2, q1, rfl, rfl⟩ := hO
        exact q1
      exact (ok_eq st).mpr ⟨rfl, U ||| M, UM, rfl, nx⟩
    · obtain ⟨rfl, U, hU, rfl, hb⟩ := hP
      have gy : ¬ nn 10 < 10 := by decide
      unfold B_R_groups_6
      simp only [ok_ite, if_neg gy, ok_rt]
      exact ⟨rfl, trivial⟩
  obtain ⟨v, K, q1, rfl, rfl⟩ := hO
  exact q1
/-- no two that differ are in one group -/
def CBE (L f g o : Nat → Nat) (n : Nat) : Prop := ∀ i, i < n → o i = 0 → L (f i) ≠ L (g i)
theorem and_z {A B : Nat} (hA : A < 1024) (hB : B < 1024) : nn A &&& nn B = 0 ↔ ∀ b, b < 10 → ¬ (A.testBit b = true ∧ B.testBit b = true) := by
  rw [and_nn (by omega) (by omega)]
  have lt : A &&& B < 1024 := Nat.and_lt_two_pow A (n := 10) hB
  constructor
  · intro h b _ q
    have z := (nn_inj (k := 0) (by omega) (by omega)).mp h
    have t : (A &&& B).testBit b = true := by rw [Nat.testBit_and, q.1, q.2]; rfl
    rw [z, Nat.zero_testBit] at t
    cases t
  · intro h
    have z : A &&& B = 0 := by
      refine Nat.eq_of_testBit_eq fun i => ?_
      rw [Nat.zero_testBit, Nat.testBit_and]
      by_cases hi : i < 10
      · have q := h i hi
        cases h1 : A.testBit i with
        | false => rfl
        | true =>
          cases h2 : B.testBit i with
          | false => rfl
          | true => exact absurd ⟨h1, h2⟩ q
      · have p : 2 ^ 10 ≤ 2 ^ i := Nat.pow_le_pow_right (by decide) (show 10 ≤ i by omega)
        rw [Nat.testBit_lt_two_pow (Nat.lt_of_lt_of_le hA p)]; rfl
    rw [z]; rfl
theorem canbe_R {J : MI} {n : Nat} {L f g o : Nat → Nat} {x1 : Int32} (h : GRP L J) (hc : ∀ i, i < n → f i < 10 ∧ g i < 10) (hm : ∀ s, s < 10 → ∃ m, m < 1024 ∧ J 236 s = nn m ∧ ∀ b, b < 10 → (m.testBit b = true ↔ ∃ i, i < n ∧ o i = 0 ∧ ((f i = s ∧ g i = b) ∨ (g i = s ∧ f i = b)))) : ∃ e, lp (B_R_names_30 x1) FU (1, 0) J = some (e, J) ∧ ((e = 1 ∧ CBE L f g o n) ∨ (e = 0 ∧ ¬ CBE L f g o n)) := by
  have hO : Ok (lp (B_R_names_30 x1) FU (1, 0)) J fun e K => K = J ∧ ((e = 1 ∧ CBE L f g o n) ∨ (e = 0 ∧ ¬ CBE L f g o n)) := by
    refine ok_lp (fun y x K => K = J ∧ ((x = (1, nn y) ∧ ∀ i, i < n → o i = 0 → f i < y → L (f i) ≠ L (g i)) ∨ (x = (0, nn y) ∧ ¬ CBE L f g o n))) 10 (fun y x K hy hP => ?_) (fun x K hP => ?_) FU (1, 0) J (by rw [FU_eq]; omega) ⟨rfl, Or.inl ⟨rfl, fun i _ _ q => absurd q (by omega)⟩⟩
    · obtain ⟨rfl, hP⟩ := hP
      obtain ⟨M, m1, m2, m3⟩ := h y hy
      obtain ⟨D, d1, d2, d3⟩ := hm y hy
      have gy : nn y < 10 := (nn_lt (k := 10) (by omega) (by omega)).mpr hy
      have iy : inR (nn y) 10 = true := inR_nn hy (by omega)
      have ty : (nn y).toNatClampNeg = y := nn_nat (by omega)
      have az := and_z m1 d1
      have bad : ∀ b, b < 10 → M.testBit b = true → D.testBit b = true → ¬ CBE L f g o n := fun b hb q1 q2 hC => by
        obtain ⟨i, i1, i2, i3⟩ := (d3 b hb).mp q2
        have e := (m3 b hb).mp q1
        rcases i3 with ⟨e1, e2⟩ | ⟨e1, e2⟩
        · exact hC i i1 i2 (by rw [e1, e2]; exact e.symm)
        · exact hC i i1 i2 (by rw [e1, e2]; exact e)
      have st : ∀ e, B_R_names_30 x1 (e, nn y) K = some (.inl (if nn M &&& nn D = 0 then e else 0, nn (y + 1)), K) := fun e => by
        have hO : Ok (B_R_names_30 x1 (e, nn y)) K fun r K2 => r = .inl (if nn M &&& nn D = 0 then e else 0, nn (y + 1)) ∧ K2 = K := by
          unfold B_R_names_30
          simp only [ok_ite, if_pos gy, ok_bn, ok_eq m2, ok_ld, iy, ty, d2, ok_rt, nn_s, true_and]
          by_cases hz : nn M &&& nn D = 0
          · simp only [if_pos hz, and_self]
          · simp only [if_neg hz, and_self]
        obtain ⟨r, K2, q1, rfl, rfl⟩ := hO
        exact q1
      rcases hP with ⟨rfl, hP⟩ | ⟨rfl, hP⟩
      · refine (ok_eq (st 1)).mpr ?_
        by_cases hz : nn M &&& nn D = 0
        · rw [if_pos hz]
          refine ⟨rfl, Or.inl ⟨rfl, fun i hi ho hf => ?_⟩⟩
          by_cases e : f i = y
          · intro q
            have gi := (hc i hi).2
            have q1 : M.testBit (g i) = true := (m3 (g i) gi).mpr (by rw [← e]; exact q.symm)
            have q2 : D.testBit (g i) = true := (d3 (g i) gi).mpr ⟨i, hi, ho, Or.inl ⟨e, rfl⟩⟩
            exact az.mp hz (g i) gi ⟨q1, q2⟩
          · exact hP i hi ho (by omega)
        · rw [if_neg hz]
          exact ⟨rfl, Or.inr ⟨rfl, fun hC => hz (az.mpr fun b hb q => bad b hb q.1 q.2 hC)⟩⟩
      · refine (ok_eq (st 0)).mpr ?_
        rw [ite_self]
        exact ⟨rfl, Or.inr ⟨rfl, hP⟩⟩
    · obtain ⟨rfl, hP⟩ := hP
      have gy : ¬ nn 10 < 10 := by decide
      have st : ∀ e, B_R_names_30 x1 (e, nn 10) K = some (.inr e, K) := fun e => by
        have hO : Ok (B_R_names_30 x1 (e, nn 10)) K fun r K2 => r = .inr e ∧ K2 = K := by
          unfold B_R_names_30
          simp only [ok_ite, if_neg gy, ok_rt, and_self]
        obtain ⟨r, K2, q1, rfl, rfl⟩ := hO
        exact q1
      rcases hP with ⟨rfl, hP⟩ | ⟨rfl, hP⟩
      · exact (ok_eq (st 1)).mpr ⟨rfl, Or.inl ⟨rfl, fun i hi ho => hP i hi ho (hc i hi).1⟩⟩
      · exact (ok_eq (st 0)).mpr ⟨rfl, Or.inr ⟨rfl, hP⟩⟩
  obtain ⟨e, K, q1, rfl, q2⟩ := hO
  exact ⟨e, q1, q2⟩
end NE99
