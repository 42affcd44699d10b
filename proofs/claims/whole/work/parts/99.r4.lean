/-! names: one set taken into the table, reference -/
section NM99
def cmp (s : Nat) : Nat := mkF (fun k => (1023 : Nat).testBit k && !s.testBit k) 10
theorem cmp_lt (s : Nat) : cmp s < 1024 := mkF_lt _ 10
theorem cmp_nn (s : Nat) : (1023 : Int32) &&& (nn s ^^^ (-1 : Int32)) = nn (cmp s) := dif_nn (A := 1023) (by decide)
theorem cmp_sub {s y : Nat} (hy : y < 1024) : y &&& cmp s = y ↔ y &&& s = 0 := by
  have t : ∀ i, (cmp s).testBit i = (decide (i < 10) && ((1023 : Nat).testBit i && !s.testBit i)) := fun i => tb_mk _ 10 i
  have all : ∀ i, i < 10 → (1023 : Nat).testBit i = true := fun i hi => by
    have : (1023 : Nat) = 2 ^ 10 - 1 := by decide
    rw [this, Nat.testBit_two_pow_sub_one, decide_eq_true hi]
  have hi2 : ∀ i, ¬ i < 10 → y.testBit i = false := fun i hi => by
    have p : 2 ^ 10 ≤ 2 ^ i := Nat.pow_le_pow_right (by decide) (show 10 ≤ i by omega)
    exact Nat.testBit_lt_two_pow (Nat.lt_of_lt_of_le hy p)
  constructor
  · intro h
    refine Nat.eq_of_testBit_eq fun i => ?_
    have q := congrArg (fun x => Nat.testBit x i) h
    simp only [Nat.testBit_and, t] at q
    rw [Nat.testBit_and, Nat.zero_testBit]
    revert q
    cases y.testBit i <;> cases s.testBit i <;> simp
  · intro h
    refine Nat.eq_of_testBit_eq fun i => ?_
    have q := congrArg (fun x => Nat.testBit x i) h
    simp only [Nat.testBit_and, Nat.zero_testBit] at q
    rw [Nat.testBit_and, t]
    by_cases hi : i < 10
    · rw [all i hi, decide_eq_true hi]
      revert q
      cases y.testBit i <;> cases s.testBit i <;> simp
    · rw [hi2 i hi, Bool.false_and]
def dpA (P : Nat → Prop) (S Y : Nat) (K : MI) : Prop := ∀ y, y < 1024 → y &&& (S + 1) = 0 → Y ≤ y → VAL P (S + 1) (y ||| (S + 1)) (K 237 (y ||| (S + 1)))
def dpB (P : Nat → Prop) (S Y : Nat) (K : MI) : Prop := ∀ T, T < 1024 → (∀ y, y &&& (S + 1) = 0 → T = y ||| (S + 1) → y < Y) → VAL P S T (K 237 T)
theorem or_le {y s T : Nat} (h : T = y ||| s) (hT : T < 1024) : y < 1024 := by
  have : y ≤ y ||| s := Nat.left_le_or
  omega
theorem dp_in {P : Nat → Prop} {S : Nat} {J : MI} (hS : S + 1 < 1024) (hP : P (S + 1)) : ∀ y, y < 1024 → y &&& (S + 1) = 0 → ∀ N K, y + 1 < N → (∀ a, a ≠ 237 → K a = J a) → dpA P S (y + 1) K → dpB P S (y + 1) K → Ok (lp (B_R_fewestNamed_62 (nn (S + 1)) (nn (cmp (S + 1)))) N (nn y)) K fun _ K2 => (∀ a, a ≠ 237 → K2 a = J a) ∧ ∀ T, T < 1024 → VAL P (S + 1) T (K2 237 T) := by
  intro y
  induction y using Nat.strongRecOn with
  | _ y ih =>
    intro hy hd N K hN hK hA hB
    obtain ⟨N, rfl⟩ : ∃ N', N = N' + 1 := ⟨N - 1, by omega⟩
    have os : y ||| (S + 1) < 1024 := Nat.or_lt_two_pow (n := 10) hy hS
    have g0 : ¬ nn y < 0 := nn_neg (by omega)
    have i1 : inR (nn (y ||| (S + 1))) 1024 = true := inR_nn os (by omega)
    have t1 : (nn (y ||| (S + 1))).toNatClampNeg = y ||| (S + 1) := nn_nat (by omega)
    have i2 : inR (nn y) 1024 = true := inR_nn hy (by omega)
    have t2 : (nn y).toNatClampNeg = y := nn_nat (by omega)
    have v1 := hB (y ||| (S + 1)) os (fun z hz e => by
      have := or_dj hz hd e.symm
      omega)
    have v2 := hB y hy (fun z hz e => by
      exfalso
      have q : (z ||| (S + 1)) &&& (S + 1) = S + 1 := by
        refine Nat.eq_of_testBit_eq fun i => ?_
        rw [Nat.testBit_and, Nat.testBit_or]
        cases z.testBit i <;> cases (S + 1).testBit i <;> rfl
      rw [← e, hd] at q
      omega)
    have vv := val_st hS hP hd v1 v2
    generalize hw : (if K 237 (y ||| (S + 1)) < K 237 y + 1 then K 237 (y ||| (S + 1)) else K 237 y + 1) = w at vv
    have hK2 : ∀ a, a ≠ 237 → bup K 237 (upd (K 237) (y ||| (S + 1)) w) a = J a := fun a h => by rw [bup_ne _ _ h]; exact hK a h
    have nA : ∀ Y, (∀ z, z < 1024 → z &&& (S + 1) = 0 → Y ≤ z → y ≤ z) → dpA P S Y (bup K 237 (upd (K 237) (y ||| (S + 1)) w)) := fun Y hY z hz hzd hle => by
      rw [bup_eq]
      by_cases e : z = y
      · rw [e, upd_eq]; exact vv
      · have ne : z ||| (S + 1) ≠ y ||| (S + 1) := fun q => e (or_dj hzd hd q)
        rw [upd_ne _ _ ne]
        have := hY z hz hzd hle
        exact hA z hz hzd (by omega)
    have nB : ∀ Y, Y ≤ y → dpB P S Y (bup K 237 (upd (K 237) (y ||| (S + 1)) w)) := fun Y hY T hT hr => by
      have ne : T ≠ y ||| (S + 1) := fun q => by have := hr y hd q; omega
      rw [bup_eq, upd_ne _ _ ne]
      exact hB T hT fun z hz e => by have := hr z hz e; omega
    have cl := cmp_lt (S + 1)
    have st : B_R_fewestNamed_62 (nn (S + 1)) (nn (cmp (S + 1))) (nn y) K = some (.inl (if y = 0 then -1 else nn (y - 1 &&& cmp (S + 1))), bup K 237 (upd (K 237) (y ||| (S + 1)) w)) := by
      have hO : Ok (B_R_fewestNamed_62 (nn (S + 1)) (nn (cmp (S + 1))) (nn y)) K fun r K2 => r = .inl (if y = 0 then -1 else nn (y - 1 &&& cmp (S + 1))) ∧ K2 = bup K 237 (upd (K 237) (y ||| (S + 1)) w) := by
        unfold B_R_fewestNamed_62
        simp only [ok_ite, if_neg g0, ok_bn, or_nn (show y < 2 ^ 31 by omega) (show S + 1 < 2 ^ 31 by omega), ok_ld, i1, t1, i2, t2, le_R, ok_rt, ok_sr, hw, true_and]
        by_cases y0 : y = 0
        · have g : nn y = 0 := by rw [y0]; rfl
          rw [if_pos g, if_pos y0]
          exact ⟨by trivial, by trivial⟩
        · have g : ¬ nn y = 0 := nn_ne (k := 0) (by omega) (by omega) y0
          have e1 : nn y - 1 = nn (y - 1) := nn_sub (k := 1) (by omega)
          rw [if_neg g, if_neg y0, e1, and_nn (by omega) (by omega)]
          exact ⟨by trivial, by trivial⟩
      obtain ⟨r, K2, q1, rfl, rfl⟩ := hO
      exact q1
    have stm : ∀ K2, B_R_fewestNamed_62 (nn (S + 1)) (nn (cmp (S + 1))) (-1) K2 = some (.inr (), K2) := fun _ => rfl
    rw [lp_s, ok_bn, ok_eq st]
    by_cases y0 : y = 0
    · rw [if_pos y0]
      obtain ⟨N, rfl⟩ : ∃ N', N = N' + 1 := ⟨N - 1, by omega⟩
      show Ok (lp (B_R_fewestNamed_62 (nn (S + 1)) (nn (cmp (S + 1)))) (N + 1) (-1)) _ _
      rw [lp_s, ok_bn, ok_eq (stm _)]
      show Ok (rt ()) _ _
      rw [ok_rt]
      refine ⟨hK2, fun T hT => ?_⟩
      have a0 := nA 0 (fun z _ _ _ => by omega)
      have b0 := nB 0 (by omega)
      by_cases hE : ∃ z, z &&& (S + 1) = 0 ∧ T = z ||| (S + 1)
      · obtain ⟨z, z1, z2⟩ := hE
        have q := a0 z (or_le z2 hT) z1 (by omega)
        rw [← z2] at q
        exact q
      · exact val_cg (fun k q => q.resolve_right fun ⟨_, z, j, z1, z2, _⟩ => hE ⟨z, z1, z2⟩) (b0 T hT fun z z1 z2 => absurd ⟨z, z1, z2⟩ hE)
    · rw [if_neg y0]
      show Ok (lp (B_R_fewestNamed_62 (nn (S + 1)) (nn (cmp (S + 1)))) N (nn (y - 1 &&& cmp (S + 1)))) _ _
      have le : (y - 1) &&& cmp (S + 1) ≤ y - 1 := Nat.and_le_left
      have sb : (y - 1 &&& cmp (S + 1)) &&& cmp (S + 1) = y - 1 &&& cmp (S + 1) := by rw [Nat.and_assoc, Nat.and_self]
      refine ih (y - 1 &&& cmp (S + 1)) (by omega) (by omega) ((cmp_sub (by omega)).mp sb) N _ (by omega) hK2 (nA _ fun z hz hzd hle => ?_) (nB _ (by omega))
      rcases Nat.lt_or_ge z y with q | q
      · have := sub_pred y z (cmp (S + 1)) ((cmp_sub hy).mpr hd) ((cmp_sub hz).mpr hzd) q
        omega
      · exact q
end NM99
