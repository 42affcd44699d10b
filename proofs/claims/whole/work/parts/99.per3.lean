/-! persons: the reference's rounds -/
section PG99
theorem or_inj {S R k : Nat} (h1 : S.testBit k = false) (h2 : R.testBit k = false) (h : S ||| 2 ^ k = R ||| 2 ^ k) : S = R := by
  refine Nat.eq_of_testBit_eq fun i => ?_
  have q := congrArg (fun x => Nat.testBit x i) h
  simp only [tb_or2] at q
  by_cases e : k = i
  · subst e; rw [h1, h2]
  · rw [decide_eq_false e, Bool.or_false, Bool.or_false] at q; exact q
theorem gr_J (a b : Int32) (J : MI) : F_R_greater a b J = some (if b < a then a else b, J) := by rw [gr_R]; rfl
theorem in_R {J0 : MI} {n i k N : Nat} {al : Nat → Nat → Bool} {f : Nat → Int32} {Bs : Nat → Prop} {J : MI} (hN : N = 2 ^ n) (hn : n ≤ 10) (hi : i ≤ 9) (hk : k < n) (hf : ∀ S, S < N → VV (Ach al i S) i S (f S)) (h0 : ∀ a, a ≠ 233 → a ≠ 234 → J a = J0 a) (h1 : J 233 = f) (h2 : ∀ R, R < N → VV (Bs R) (i + 1) R (J 234 R)) : Ok (lp (B_R_fewestPersons_97 (nn N) (nn i) (nn k)) FU 0) J fun _ K => (∀ a, a ≠ 233 → a ≠ 234 → K a = J0 a) ∧ K 233 = f ∧ ∀ R, R < N → VV (Bs R ∨ ∃ S, S.testBit k = false ∧ R = S ||| 2 ^ k ∧ Ach al i S) (i + 1) R (K 234 R) := by
  have p2 : 2 ^ n ≤ 1024 := by
    have : (2 : Nat) ^ n ≤ 2 ^ 10 := Nat.pow_le_pow_right (by decide) hn
    exact this
  have pk : (2 : Nat) ^ k < 2 ^ n := Nat.pow_lt_pow_right (by decide) hk
  refine ok_lp (fun S x K => x = nn S ∧ (∀ a, a ≠ 233 → a ≠ 234 → K a = J0 a) ∧ K 233 = f ∧ ∀ R, R < N → VV (Bs R ∨ ∃ T, T < S ∧ T.testBit k = false ∧ R = T ||| 2 ^ k ∧ Ach al i T) (i + 1) R (K 234 R)) N (fun S x K hS hP => ?_) (fun x K hP => ?_) FU 0 J (by rw [FU_eq]; omega) ⟨rfl, h0, h1, fun R hR => vv_iff ⟨fun h => Or.inl h, fun h => h.elim id fun ⟨T, hT, _⟩ => absurd hT (by omega)⟩ (h2 R hR)⟩
  · obtain ⟨rfl, i1, i2, i3⟩ := hP
    have g : nn S < nn N := (nn_lt (by omega) (by omega)).mpr hS
    have hs : F_R_has (nn S) (nn k) = rt (if S.testBit k = true then 1 else 0) := has_nn (by omega) (by omega)
    have S1 : S ||| 2 ^ k < N := by rw [hN]; exact Nat.or_lt_two_pow (by omega) pk
    have eo : nn S ||| ((1 : Int32) <<< (nn k &&& 31)) = nn (S ||| 2 ^ k) := by rw [shl_nn (by omega), or_nn (by omega) (by omega)]
    have j1 : inR (nn (S ||| 2 ^ k)) 1024 = true := inR_nn (by omega) (by omega)
    have t1 : (nn (S ||| 2 ^ k)).toNatClampNeg = S ||| 2 ^ k := nn_nat (by omega)
    have j2 : inR (nn S) 1024 = true := inR_nn (by omega) (by omega)
    have t2 : (nn S).toNatClampNeg = S := nn_nat (by omega)
    unfold B_R_fewestPersons_97
    cases hb : S.testBit k with
    | true =>
      rw [hb] at hs
      simp (decide := true) only [ok_ite, if_pos g, ok_bn, hs, ok_rt, if_true, if_false, nn_s]
      refine ⟨trivial, i1, i2, fun R hR => vv_iff ⟨fun h => h.imp id fun ⟨T, a, b⟩ => ⟨T, by omega, b⟩, fun h => h.imp id fun ⟨T, a, b⟩ => ⟨T, ?_, b⟩⟩ (i3 R hR)⟩
      have : T ≠ S := fun e => by rw [e, hb] at b; exact absurd b.1 (by decide)
      omega
    | false =>
      rw [hb] at hs
      simp (decide := true) only [ok_ite, if_pos g, ok_bn, hs, ok_rt, if_true, if_false, nn_s, eo, ok_ld, j1, t1, j2, t2, i2, ok_eq (gr_J _ _ K), ok_sr, true_and]
      refine ⟨fun a n1 n2 => ?_, ?_, fun R hR => ?_⟩
      · rw [bup_ne _ _ n2]; exact i1 a n1 n2
      · rw [bup_ne _ _ (by decide)]; exact i2
      · rw [bup_eq]
        by_cases e : R = S ||| 2 ^ k
        · subst e
          rw [upd_eq]
          refine vv_iff ?_ (vv_max (by omega) (by omega) hb (i3 _ S1) (hf S hS))
          constructor
          · rintro ((h | ⟨T, a, b⟩) | h)
            · exact Or.inl h
            · exact Or.inr ⟨T, by omega, b⟩
            · exact Or.inr ⟨S, by omega, hb, rfl, h⟩
          · rintro (h | ⟨T, a, b1, b2, b3⟩)
            · exact Or.inl (Or.inl h)
            · have e2 := or_inj hb b1 b2
              subst e2
              exact Or.inr b3
        · rw [upd_ne _ _ e]
          refine vv_iff ⟨fun h => h.imp id fun ⟨T, a, b⟩ => ⟨T, by omega, b⟩, fun h => h.imp id fun ⟨T, a, b⟩ => ⟨T, ?_, b⟩⟩ (i3 R hR)
          have : T ≠ S := fun e2 => by subst e2; exact e b.2.1
          omega
  · obtain ⟨rfl, i1, i2, i3⟩ := hP
    have g : ¬ nn N < nn N := fun q => by have := (nn_lt (by omega) (by omega)).mp q; omega
    unfold B_R_fewestPersons_97
    simp only [ok_ite, if_neg g, ok_rt]
    refine ⟨i1, i2, fun R hR => vv_iff ⟨fun h => h.imp id fun ⟨T, a, b⟩ => ⟨T, b⟩, fun h => h.imp id fun ⟨T, b1, b2, b3⟩ => ⟨T, ?_, b1, b2, b3⟩⟩ (i3 R hR)⟩
    have : T ≤ T ||| 2 ^ k := Nat.left_le_or
    omega
def PF (al : Nat → Nat → Bool) (J0 : MI) (N i : Nat) (J : MI) : Prop := (∀ a, a ≠ 233 → a ≠ 234 → J a = J0 a) ∧ ∀ S, S < N → VV (Ach al i S) i S (J 233 S)
theorem round_PF {J0 J : MI} {n i N : Nat} {al : Nat → Nat → Bool} (hN : N = 2 ^ n) (hn : n ≤ 10) (hi : i < n) (h44 : J0 207 44 = nn n) (hal : ∀ l j, al l j = true → j < n) (hcan : ∀ K : MI, (∀ a, a ≠ 233 → a ≠ 234 → K a = J0 a) → ∀ x y, x < n → y < n → F_R_canCome (nn x) (nn y) K = some (if al x y = true then 1 else 0, K)) (h : PF al J0 N i J) : Ok (K_R_fewestPersons_49 (nn N) (nn i) 0) J fun r K => r = .inl (nn (i + 1)) ∧ PF al J0 N (i + 1) K := by
  have p2 : 2 ^ n ≤ 1024 := by
    have : (2 : Nat) ^ n ≤ 2 ^ 10 := Nat.pow_le_pow_right (by decide) hn
    exact this
  obtain ⟨h0, hf⟩ := h
  unfold K_R_fewestPersons_49 K_R_fewestPersons_72 K_R_fewestPersons_74 K_R_fewestPersons_160 K_R_fewestPersons_162 K_R_fewestPersons_185
  rw [ok_bn]
  refine ok_mono (Q := fun _ K => (∀ a, a ≠ 233 → a ≠ 234 → K a = J0 a) ∧ K 233 = J 233 ∧ ∀ R, R < N → K 234 R = J 233 R) ?_ fun _ K q => ?_
  · refine ok_lp (fun S x K => x = nn S ∧ (∀ a, a ≠ 233 → a ≠ 234 → K a = J0 a) ∧ K 233 = J 233 ∧ ∀ R, R < S → K 234 R = J 233 R) N (fun S x K hS hP => ?_) (fun x K hP => ?_) FU 0 J (by rw [FU_eq]; omega) ⟨rfl, h0, rfl, fun R hR => absurd hR (by omega)⟩
    · obtain ⟨rfl, i1, i2, i3⟩ := hP
      have g : nn S < nn N := (nn_lt (by omega) (by omega)).mpr hS
      have j2 : inR (nn S) 1024 = true := inR_nn (by omega) (by omega)
      have t2 : (nn S).toNatClampNeg = S := nn_nat (by omega)
      unfold B_R_fewestPersons_49
      simp only [ok_ite, if_pos g, ok_bn, ok_ld, ok_sr, j2, t2, i2, ok_rt, nn_s, true_and]
      refine ⟨fun a n1 n2 => ?_, ?_, fun R hR => ?_⟩
      · rw [bup_ne _ _ n2]; exact i1 a n1 n2
      · rw [bup_ne _ _ (by decide)]; exact i2
      · rw [bup_eq]
        by_cases e : R = S
        · subst e; rw [upd_eq]
        · rw [upd_ne _ _ e]; exact i3 R (by omega)
    · obtain ⟨rfl, i1, i2, i3⟩ := hP
      have g : ¬ nn N < nn N := fun q => by have := (nn_lt (by omega) (by omega)).mp q; omega
      unfold B_R_fewestPersons_49
      simp only [ok_ite, if_neg g, ok_rt]
      exact ⟨i1, i2, i3⟩
  · obtain ⟨k1, k2, k3⟩ := q
    rw [ok_bn]
    refine ok_mono (Q := fun _ K => (∀ a, a ≠ 233 → a ≠ 234 → K a = J0 a) ∧ ∀ R, R < N → VV (Ach al (i + 1) R) (i + 1) R (K 234 R)) ?_ fun _ K q => ?_
    · refine ok_lp (fun k x K => x = nn k ∧ (∀ a, a ≠ 233 → a ≠ 234 → K a = J0 a) ∧ K 233 = J 233 ∧ ∀ R, R < N → VV (Ach al i R ∨ ∃ y S, y < k ∧ al i y = true ∧ S.testBit y = false ∧ R = S ||| 2 ^ y ∧ Ach al i S) (i + 1) R (K 234 R)) n (fun k x K hk hP => ?_) (fun x K hP => ?_) FU 0 K (by rw [FU_eq]; omega) ⟨rfl, k1, k2, fun R hR => vv_iff ⟨fun h => Or.inl h, fun h => h.elim id fun ⟨y, S, hy, _⟩ => absurd hy (by omega)⟩ (vv_up (by rw [k3 R hR]; exact hf R hR))⟩
      · obtain ⟨rfl, i1, i2, i3⟩ := hP
        have e44 : K 207 44 = nn n := by rw [i1 207 (by decide) (by decide)]; exact h44
        have g : nn k < nn n := (nn_lt (by omega) (by omega)).mpr hk
        have cc := hcan K i1 i k hi hk
        unfold B_R_fewestPersons_74 K_R_fewestPersons_97 K_R_fewestPersons_154
        cases hc : al i k with
        | false =>
          rw [hc] at cc
          simp (decide := true) only [ok_bn, ok_rd, e44, ok_ite, if_pos g, ok_eq cc, if_true, if_false, ok_rt, nn_s]
          refine ⟨trivial, i1, i2, fun R hR => vv_iff ⟨fun h => h.imp id fun ⟨y, S, a, b⟩ => ⟨y, S, by omega, b⟩, fun h => h.imp id fun ⟨y, S, a, b⟩ => ⟨y, S, ?_, b⟩⟩ (i3 R hR)⟩
          have : y ≠ k := fun e => by subst e; rw [hc] at b; exact absurd b.1 (by decide)
          omega
        | true =>
          rw [hc] at cc
          simp (decide := true) only [ok_bn, ok_rd, e44, ok_ite, if_pos g, ok_eq cc, if_true, if_false, ok_rt, nn_s]
          refine ok_mono (in_R hN hn (by omega) hk hf i1 i2 i3) fun _ K2 q => ?_
          obtain ⟨r1, r2, r3⟩ := q
          refine ⟨trivial, r1, r2, fun R hR => vv_iff ⟨?_, ?_⟩ (r3 R hR)⟩
          · rintro ((h | ⟨y, S, a, b⟩) | ⟨S, s1, s2, s3⟩)
            · exact Or.inl h
            · exact Or.inr ⟨y, S, by omega, b⟩
            · exact Or.inr ⟨k, S, by omega, hc, s1, s2, s3⟩
          · rintro (h | ⟨y, S, a, b1, b2, b3, b4⟩)
            · exact Or.inl (Or.inl h)
            · by_cases e : y = k
              · subst e; exact Or.inr ⟨S, b2, b3, b4⟩
              · exact Or.inl (Or.inr ⟨y, S, by omega, b1, b2, b3, b4⟩)
      · obtain ⟨rfl, i1, i2, i3⟩ := hP
        have e44 : K 207 44 = nn n := by rw [i1 207 (by decide) (by decide)]; exact h44
        have g : ¬ nn n < nn n := fun q => by have := (nn_lt (by omega) (by omega)).mp q; omega
        unfold B_R_fewestPersons_74
        simp only [ok_bn, ok_rd, e44, ok_ite, if_neg g, ok_rt]
        exact ⟨i1, fun R hR => vv_iff ⟨fun h => h.imp id fun ⟨y, S, a, b⟩ => ⟨y, S, by omega, b⟩, fun h => h.imp id fun ⟨y, S, a, b, c⟩ => ⟨y, S, hal i y b, b, c⟩⟩ (i3 R hR)⟩
    · obtain ⟨k1, k2⟩ := q
      rw [ok_bn]
      refine ok_mono (Q := fun _ L => (∀ a, a ≠ 233 → a ≠ 234 → L a = J0 a) ∧ ∀ R, R < N → L 233 R = K 234 R) ?_ fun _ L q => by
        rw [ok_rt]
        exact ⟨congrArg Sum.inl (nn_s i), q.1, fun S hS => by rw [q.2 S hS]; exact k2 S hS⟩
      refine ok_lp (fun S x L => x = nn S ∧ (∀ a, a ≠ 233 → a ≠ 234 → L a = J0 a) ∧ L 234 = K 234 ∧ ∀ R, R < S → L 233 R = K 234 R) N (fun S x L hS hP => ?_) (fun x L hP => ?_) FU 0 K (by rw [FU_eq]; omega) ⟨rfl, k1, rfl, fun R hR => absurd hR (by omega)⟩
      · obtain ⟨rfl, i1, i2, i3⟩ := hP
        have g : nn S < nn N := (nn_lt (by omega) (by omega)).mpr hS
        have j2 : inR (nn S) 1024 = true := inR_nn (by omega) (by omega)
        have t2 : (nn S).toNatClampNeg = S := nn_nat (by omega)
        unfold B_R_fewestPersons_162
        simp only [ok_ite, if_pos g, ok_bn, ok_ld, ok_sr, j2, t2, i2, ok_rt, nn_s, true_and]
        refine ⟨fun a n1 n2 => ?_, ?_, fun R hR => ?_⟩
        · rw [bup_ne _ _ n1]; exact i1 a n1 n2
        · rw [bup_ne _ _ (by decide)]; exact i2
        · rw [bup_eq]
          by_cases e : R = S
          · subst e; rw [upd_eq]
          · rw [upd_ne _ _ e]; exact i3 R (by omega)
      · obtain ⟨rfl, i1, i2, i3⟩ := hP
        have g : ¬ nn N < nn N := fun q => by have := (nn_lt (by omega) (by omega)).mp q; omega
        unfold B_R_fewestPersons_162
        simp only [ok_ite, if_neg g, ok_rt]
        exact ⟨i1, i3⟩
end PG99
