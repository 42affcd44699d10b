/-! names: a set that can be one name, on the reference side -/
section NK99
theorem dif_nn {A W : Nat} (hA : A < 1024) : nn A &&& (nn W ^^^ (-1 : Int32)) = nn (mkF (fun k => A.testBit k && !W.testBit k) 10) := by
  apply bv_inj
  have e : (nn A &&& (nn W ^^^ (-1 : Int32))).toBitVec = BitVec.ofNat 32 A &&& (BitVec.ofNat 32 W ^^^ BitVec.ofNat 32 4294967295) := rfl
  rw [e, nn_bv]
  apply BitVec.eq_of_getLsbD_eq
  intro i hi
  have h1 : (4294967295 : Nat).testBit i = true := by
    have : (4294967295 : Nat) = 2 ^ 32 - 1 := by decide
    rw [this, Nat.testBit_two_pow_sub_one, decide_eq_true hi]
  rw [BitVec.getLsbD_and, BitVec.getLsbD_xor, bv_tb hi, bv_tb hi, bv_tb hi, bv_tb hi, tb_mk, h1]
  by_cases e2 : i < 10
  · rw [decide_eq_true e2]; simp
  · have p : 2 ^ 10 ≤ 2 ^ i := Nat.pow_le_pow_right (by decide) (show 10 ≤ i by omega)
    rw [Nat.testBit_lt_two_pow (Nat.lt_of_lt_of_le hA p), decide_eq_false e2]; rfl
theorem dif_z {A W : Nat} (hA : A < 1024) : nn A &&& (nn W ^^^ (-1 : Int32)) = 0 ↔ ∀ b, b < 10 → A.testBit b = true → W.testBit b = true := by
  rw [dif_nn hA]
  have lt := mkF_lt (fun k => A.testBit k && !W.testBit k) 10
  constructor
  · intro h b hb q
    have z := (nn_inj (k := 0) (by omega) (by omega)).mp h
    have t := tb_mk (fun k => A.testBit k && !W.testBit k) 10 b
    rw [z, Nat.zero_testBit, decide_eq_true hb, q] at t
    cases hw : W.testBit b with
    | true => rfl
    | false => rw [hw] at t; cases t
  · intro h
    have z : mkF (fun k => A.testBit k && !W.testBit k) 10 = 0 := by
      refine mk_0.mpr ?_
      rw [List.all_eq_true]
      intro b hb
      have hb := List.mem_range.mp hb
      cases ha : A.testBit b with
      | false => rfl
      | true => rw [h b hb ha]; rfl
    rw [z]; rfl
theorem one_R {J : MI} {n S : Nat} {L f g o : Nat → Nat} (hS : S < 1024) (h : GRP L J) (hc : ∀ i, i < n → f i < 10 ∧ g i < 10) (hm : ∀ s, s < 10 → ∃ m, m < 1024 ∧ J 236 s = nn m ∧ ∀ b, b < 10 → (m.testBit b = true ↔ ∃ i, i < n ∧ o i = 0 ∧ ((f i = s ∧ g i = b) ∨ (g i = s ∧ f i = b)))) : ∃ e, F_R_canBeOne (nn S) J = some (e, J) ∧ ((e = 1 ∧ OK1 L f g o n S) ∨ (e = 0 ∧ ¬ OK1 L f g o n S)) := by
  have hO : Ok (F_R_canBeOne (nn S)) J fun e K => K = J ∧ ((e = 1 ∧ OK1 L f g o n S) ∨ (e = 0 ∧ ¬ OK1 L f g o n S)) := by
    unfold F_R_canBeOne K_R_canBeOne_2
    refine ok_lp (fun y x K => x = nn y ∧ K = J ∧ (∀ a b, a < y → b < 10 → S.testBit a = true → L b = L a → S.testBit b = true) ∧ ∀ i, i < n → o i = 0 → f i < y → S.testBit (f i) = true → S.testBit (g i) = true → False) 10 (fun y x K hy hP => ?_) (fun x K hP => ?_) FU 0 J (by rw [FU_eq]; omega) ⟨rfl, rfl, fun a b q => absurd q (by omega), fun i _ _ q => absurd q (by omega)⟩
    · obtain ⟨rfl, rfl, p1, p2⟩ := hP
      obtain ⟨M, m1, m2, m3⟩ := h y hy
      obtain ⟨D, d1, d2, d3⟩ := hm y hy
      have gy : nn y < 10 := (nn_lt (k := 10) (by omega) (by omega)).mpr hy
      have iy : inR (nn y) 10 = true := inR_nn hy (by omega)
      have ty : (nn y).toNatClampNeg = y := nn_nat (by omega)
      unfold B_R_canBeOne_2
      simp only [ok_ite, if_pos gy, ok_bn, has_nn (show S < 2 ^ 31 by omega) (show y < 31 by omega), ok_rt]
      by_cases hb : S.testBit y = true
      · simp only [if_pos hb, if_neg one_ne, ok_eq m2]
        by_cases h1 : nn M &&& (nn S ^^^ (-1 : Int32)) = 0
        · have q1 := (dif_z m1).mp h1
          simp only [if_pos h1, ok_ld, iy, ty, d2, true_and]
          by_cases h2 : nn D &&& nn S = 0
          · have q2 := (and_z d1 hS).mp h2
            simp only [if_pos h2, nn_s, true_and]
            refine ⟨fun a b ha hb2 hs e => ?_, fun i hi ho hf s1 s2 => ?_⟩
            · by_cases ea : a = y
              · exact q1 b hb2 ((m3 b hb2).mpr (by rw [← ea]; exact e))
              · exact p1 a b (by omega) hb2 hs e
            · by_cases ef : f i = y
              · exact q2 (g i) (hc i hi).2 ⟨(d3 (g i) (hc i hi).2).mpr ⟨i, hi, ho, Or.inl ⟨ef, rfl⟩⟩, s2⟩
              · exact p2 i hi ho (by omega) s1 s2
          · simp only [if_neg h2, ok_gdZ, true_and]
            refine ⟨Or.inl trivial, Or.inr (fun hC => h2 ((and_z d1 hS).mpr fun b hb2 q => ?_))⟩
            obtain ⟨i, i1, i2, i3⟩ := (d3 b hb2).mp q.1
            rcases i3 with ⟨e1, e2⟩ | ⟨e1, e2⟩
            · exact hC.2 i i1 i2 (by rw [e1]; exact hb) (by rw [e2]; exact q.2)
            · exact hC.2 i i1 i2 (by rw [e2]; exact q.2) (by rw [e1]; exact hb)
        · simp only [if_neg h1, ok_gdZ, ok_rt, ok_bn, true_and]
          exact ⟨Or.inl trivial, Or.inr (fun hC => h1 ((dif_z m1).mpr fun b hb2 q => hC.1 y b hy hb2 hb ((m3 b hb2).mp q)))⟩
      · simp only [if_neg hb, if_true, nn_s, true_and]
        refine ⟨fun a b ha hb2 hs e => ?_, fun i hi ho hf s1 s2 => ?_⟩
        · by_cases ea : a = y
          · rw [ea] at hs; exact absurd hs hb
          · exact p1 a b (by omega) hb2 hs e
        · by_cases ef : f i = y
          · rw [ef] at s1; exact absurd s1 hb
          · exact p2 i hi ho (by omega) s1 s2
    · obtain ⟨rfl, rfl, p1, p2⟩ := hP
      have gy : ¬ nn 10 < 10 := by decide
      unfold B_R_canBeOne_2
      simp only [ok_ite, if_neg gy, ok_bn, ok_gdZ, ok_rt]
      exact ⟨Or.inr trivial, trivial, Or.inl ⟨trivial, p1, fun i hi ho => p2 i hi ho (hc i hi).1⟩⟩
  obtain ⟨e, K, q1, rfl, q2⟩ := hO
  exact ⟨e, q1, q2⟩
end NK99
