/-! names: the reference's groups are the class's -/
section ND99
theorem swp_R {J : MI} {d : Nat → Nat} {x : Int32} {m : Nat} (hd : ∀ y, y < 10 → d y < 1024 ∧ J 235 y = nn (d y)) (hm : m < 1024) : lp (B_R_groupOf_15 x) FU (nn m, 0) J = some (nn (swp d 10 m), J) := by
  refine lp_val (body := B_R_groupOf_15 x) (fun y => (nn (swp d y m), nn y)) 10 (fun y hy => ?_) rfl FU (by rw [FU_eq]; decide)
  have lt := swp_lt (m := m) (fun y hy => (hd y hy).1) hm y (by omega)
  have gy : nn y < 10 := (nn_lt (k := 10) (by omega) (by omega)).mpr hy
  have iy : inR (nn y) 10 = true := inR_nn hy (by omega)
  have ty : (nn y).toNatClampNeg = y := nn_nat (by omega)
  obtain ⟨d1, d2⟩ := hd y hy
  have st : swp d (y + 1) m = if (swp d y m).testBit y = true then swp d y m ||| d y else swp d y m := rfl
  rw [st]
  generalize swp d y m = q at *
  have hO : Ok (B_R_groupOf_15 x (nn q, nn y)) J fun r K => r = .inl (nn (if q.testBit y = true then q ||| d y else q), nn (y + 1)) ∧ K = J := by
    unfold B_R_groupOf_15
    simp only [ok_ite, if_pos gy, ok_bn, has_nn (show q < 2 ^ 31 by omega) (show y < 31 by omega), ok_rt, nn_s]
    cases hb : q.testBit y with
    | true => simp (decide := true) only [if_true, if_false, ok_bn, ok_ld, iy, ty, d2, or_nn (show q < 2 ^ 31 by omega) (show d y < 2 ^ 31 by omega), ok_rt, true_and, and_self]
    | false => simp (decide := true) only [if_true, if_false, ok_rt, and_self]
  obtain ⟨r, K, q1, rfl, rfl⟩ := hO
  exact q1
theorem rds_R {J : MI} {d : Nat → Nat} {a : Nat} (ha : a < 10) (hd : ∀ y, y < 10 → d y < 1024 ∧ J 235 y = nn (d y)) : F_R_groupOf (nn a) J = some (nn (rds d (2 ^ a) 10), J) := by
  have pa : (2 : Nat) ^ a < 2 ^ 10 := Nat.pow_lt_pow_right (by decide) ha
  unfold F_R_groupOf K_R_groupOf_6
  rw [shl_nn (by omega)]
  refine lp_val (body := B_R_groupOf_6) (fun k => (nn (rds d (2 ^ a) k), nn k)) 10 (fun k hk => ?_) rfl FU (by rw [FU_eq]; decide)
  have lt := rds_lt (m := 2 ^ a) (fun y hy => (hd y hy).1) pa k
  have gk : nn k < 10 := (nn_lt (k := 10) (by omega) (by omega)).mpr hk
  have sw := swp_R (x := nn k) hd lt
  have st : rds d (2 ^ a) (k + 1) = swp d 10 (rds d (2 ^ a) k) := rfl
  rw [st]
  generalize swp d 10 (rds d (2 ^ a) k) = q at *
  generalize rds d (2 ^ a) k = p at *
  have hO : Ok (B_R_groupOf_6 (nn p, nn k)) J fun r K => r = .inl (nn q, nn (k + 1)) ∧ K = J := by
    unfold B_R_groupOf_6 K_R_groupOf_15 K_R_groupOf_48
    simp only [ok_ite, if_pos gk, ok_bn, ok_eq sw, ok_rt, nn_s, and_self]
  obtain ⟨r, K, q1, rfl, rfl⟩ := hO
  exact q1
/-- the mask of a group -/
theorem grp_R {J : MI} {n a : Nat} {f g o : Nat → Nat} (ha : a < 10) (hc : ∀ i, i < n → f i < 10 ∧ g i < 10) (hm : ∀ s, s < 10 → ∃ m, m < 1024 ∧ J 235 s = nn m ∧ ∀ b, b < 10 → (m.testBit b = true ↔ ∃ i, i < n ∧ o i = 1 ∧ ((f i = s ∧ g i = b) ∨ (g i = s ∧ f i = b)))) : ∃ M, M < 1024 ∧ F_R_groupOf (nn a) J = some (nn M, J) ∧ ∀ b, b < 10 → (M.testBit b = true ↔ LL f g o n b = LL f g o n a) := by
  have pa : (2 : Nat) ^ a < 2 ^ 10 := Nat.pow_lt_pow_right (by decide) ha
  have ex : ∃ d : Nat → Nat, ∀ s, s < 10 → d s < 1024 ∧ J 235 s = nn (d s) ∧ ∀ b, b < 10 → ((d s).testBit b = true ↔ ∃ i, i < n ∧ o i = 1 ∧ ((f i = s ∧ g i = b) ∨ (g i = s ∧ f i = b))) := by
    refine ⟨fun s => if h : s < 10 then (hm s h).choose else 0, fun s hs => ?_⟩
    have e : (fun s => if h : s < 10 then (hm s h).choose else 0) s = (hm s hs).choose := dif_pos hs
    rw [e]
    exact (hm s hs).choose_spec
  obtain ⟨d, hd⟩ := ex
  have top : ∀ m, m < 1024 → ∀ i, m.testBit i = true → i < 10 := fun m h i hi => by
    rcases Nat.lt_or_ge i 10 with q | q
    · exact q
    · have p : 2 ^ 10 ≤ 2 ^ i := Nat.pow_le_pow_right (by decide) q
      rw [Nat.testBit_lt_two_pow (Nat.lt_of_lt_of_le h p)] at hi
      cases hi
  have one : 1 ≤ cnS (2 ^ a) := by
    have : ∀ a, a < 10 → 1 ≤ cnS (2 ^ a) := by decide
    exact this a ha
  have ml := rds_lt (m := 2 ^ a) (fun y hy => (hd y hy).1) pa 10
  have fx := rds_fix (m := 2 ^ a) (fun y hy => (hd y hy).1) pa one
  have clo := swp_fix fx
  have ain : ∀ k, (rds d (2 ^ a) k).testBit a = true := by
    intro k
    induction k with
    | zero => exact Nat.testBit_two_pow_self
    | succ k ih => exact swp_sub d _ 10 a ih
  have snd : ∀ k i, (rds d (2 ^ a) k).testBit i = true → LL f g o n i = LL f g o n a := by
    intro k
    induction k with
    | zero =>
      intro i h
      have h : (2 ^ a).testBit i = true := h
      rw [Nat.testBit_two_pow] at h
      rw [of_decide_eq_true h]
    | succ k ih =>
      intro i h
      refine swp_in (d := d) (m := rds d (2 ^ a) k) (C := fun i => LL f g o n i = LL f g o n a) (fun y hy h1 i h2 => ?_) ih 10 (Nat.le_refl _) i h
      have hi := top _ (hd y hy).1 i h2
      obtain ⟨j, j1, j2, j3⟩ := ((hd y hy).2.2 i hi).mp h2
      have q := LL_one (f := f) (g := g) (o := o) n j j1 j2
      rcases j3 with ⟨e1, e2⟩ | ⟨e1, e2⟩
      · rw [e1, e2] at q; exact q.symm.trans h1
      · rw [e1, e2] at q; exact q.trans h1
  refine ⟨rds d (2 ^ a) 10, ml, rds_R ha (fun y hy => ⟨(hd y hy).1, (hd y hy).2.1⟩), fun b hb => ⟨snd 10 b, fun h => ?_⟩⟩
  have q := LL_cl (f := f) (g := g) (o := o) (n := n) (S := fun i => (rds d (2 ^ a) 10).testBit i = true) (fun i hi ho => by
    obtain ⟨q1, q2⟩ := hc i hi
    exact ⟨fun z => clo (f i) q1 z (g i) (((hd (f i) q1).2.2 (g i) q2).mpr ⟨i, hi, ho, Or.inl ⟨rfl, rfl⟩⟩), fun z => clo (g i) q2 z (f i) (((hd (g i) q2).2.2 (f i) q1).mpr ⟨i, hi, ho, Or.inr ⟨rfl, rfl⟩⟩)⟩) n (Nat.le_refl _) b a h
  exact q.mpr (ain 10)
end ND99
