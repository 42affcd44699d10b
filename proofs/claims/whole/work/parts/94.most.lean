/-! how many can be paired: Kuhn's way is the greatest -/
section MO94
theorem cn_one {c d : Nat → Bool} {n r : Nat} (hr : r < n) (h0 : c r = false) (h1 : d r = true) (h : ∀ y, y < n → y ≠ r → d y = c y) : cntN d n = cntN c n + 1 := by
  induction n with
  | zero => omega
  | succ n ih =>
    unfold cntN
    by_cases e : r = n
    · subst e
      rw [if_pos h1, if_neg (by rw [h0]; decide), cn_cg (fun k hk => h k (by omega) (by omega))]
    · have q := ih (by omega) (fun y hy => h y (by omega))
      rw [h n (by omega) (fun e2 => e e2.symm), q]
      split <;> omega
theorem most_ok {r0 b f t T : Nat} {am : Nat → Nat} {I : MI} (hs : siz shT (r0 + 2) = 10) (hA : ∀ x, x < t → I (r0 + 1) x = nn (am x)) (hb : b ≤ 10) (hab : ∀ l j, (am l).testBit j = true → j < b) (hft : f ≤ t) (ht : t ≤ 10) (hT : T < 1024) : ∃ I1, F_Matching_most r0 (nn f) (nn t) (nn T) I = some (nn (mx (fun l j => (am l).testBit j) b (t - f) f T), I1) ∧ ∀ a, a ≠ r0 → a ≠ r0 + 2 → I1 a = I a := by
  have hO : Ok (F_Matching_most r0 (nn f) (nn t) (nn T)) I fun v I1 => v = nn (mx (fun l j => (am l).testBit j) b (t - f) f T) ∧ ∀ a, a ≠ r0 → a ≠ r0 + 2 → I1 a = I a := by
    unfold F_Matching_most K_Matching_most_14
    rw [ok_bn]
    obtain ⟨g, hg, hg2⟩ : ∃ g, F_Arrays_fill (r0 + 2) (-1) I = some ((), bup I (r0 + 2) g) ∧ ∀ k, k < 10 → g k = -1 := by
      exact ⟨_, fill_A (I := I) (t := r0 + 2) (v := -1) (n := 10) hs (by decide), fun k hk => if_pos hk⟩
    rw [ok_eq hg]
    refine ok_lp (fun k y I1 => ∃ (o : Nat → Nat) (V : Nat → Bool), y = (nn (cntN (fun y => decide (o y < 10)) 10), nn (f + k)) ∧ (∀ a, a ≠ r0 → a ≠ r0 + 2 → I1 a = I a) ∧ (∀ y, y < 10 → I1 (r0 + 2) y = own (o y)) ∧ Inj o ∧ (∀ y, y < 10 → o y < 10 → (am (o y)).testBit y = true ∧ T.testBit y = false ∧ f ≤ o y ∧ o y < f + k) ∧ (∀ v, v < 10 → V v = true → o v < 10) ∧ ∀ p, f ≤ p → p < f + k → (∃ y, y < 10 ∧ o y = p ∧ V y = false) ∨ ∀ j, j < 10 → (am p).testBit j = true → T.testBit j = false → V j = true) (t - f) (fun k y I1 hk hP => ?_) (fun y I1 hP => ?_) FU _ _ (by rw [FU_eq]; omega) ⟨fun _ => 10, fun _ => false, rfl, fun a h1 h2 => bup_ne _ _ h2, fun y hy => by rw [bup_eq]; exact hg2 y hy, fun y z _ _ h => absurd h (Nat.lt_irrefl 10), fun y _ h => absurd h (Nat.lt_irrefl 10), (fun v _ h => by cases h), fun p h1 h2 => absurd h2 (by omega)⟩
    · obtain ⟨o, V, rfl, i1, i2, inj, val, vo, cl⟩ := hP
      have c10 := (cntF_N (fun y => decide (o y < 10)) 10).2
      have g1 : nn (f + k) < nn t := (nn_lt (by omega) (by omega)).mpr (by omega)
      have g2 : nn (f + k) < 10 := (nn_lt (k := 10) (by omega) (by omega)).mpr (by omega)
      have M : MS r0 I T o (bup I1 r0 (upd (I1 r0) 2 (nn T))) := by
        refine ⟨fun a h1 h2 => ?_, ?_, fun y hy => ?_⟩
        · rw [bup_ne _ _ h1]; exact i1 a h1 h2
        · rw [bup_eq, upd_eq]
        · rw [bup_ne _ _ (by omega)]; exact i2 y hy
      have fd := finds_ok (r0 := r0) (am := am) (I0 := I) ht hA 14 0 (f + k) T o _ rfl (Nat.zero_le _) (by omega) (fun y hy h => by have := val y hy h; omega) hT M inj (fun y hy h => (val y hy h).1) (fun y hy h => by
        have := val y hy (by omega)
        omega)
      obtain ⟨v, I2, q1, U, p, ⟨m1, m2, m3⟩, u3, s3, q2⟩ := fd
      have q1' : F_Matching_finds r0 (nn (f + k)) 0 (bup I1 r0 (upd (I1 r0) 2 (nn T))) = some (v, I2) := q1
      unfold B_Matching_most_14
      simp only [ok_ite, if_pos g1, if_pos g2, ok_bn, ok_wr, ok_eq q1', ok_rt]
      rcases q2 with ⟨rfl, rfl, f1, f2⟩ | ⟨rfl, s1, s2, s4, s5, s6⟩
      · rw [if_pos rfl]
        refine ⟨p, fun y => V y || (U.testBit y && !T.testBit y), ?_, m1, m3, inj, fun y hy h => ?_, fun v hv h => ?_, fun q h1 h2 => ?_⟩
        · rw [Int32.add_zero, nn_s]; rfl
        · obtain ⟨a1, a2, a3, a4⟩ := val y hy h
          exact ⟨a1, a2, a3, by omega⟩
        · simp only [Bool.or_eq_true, Bool.and_eq_true, Bool.not_eq_true'] at h
          rcases h with h | ⟨h3, h4⟩
          · exact vo v hv h
          · exact (f1 v hv h3 h4).1
        · by_cases e : q = f + k
          · subst e
            refine Or.inr fun j hj h3 h4 => ?_
            have : U.testBit j = true := f2 j hj h3
            show (V j || (U.testBit j && !T.testBit j)) = true
            rw [this, h4]; simp
          · rcases cl q h1 (by omega) with ⟨y, hy, y1, y2⟩ | h3
            · by_cases hU : U.testBit y = true ∧ T.testBit y = false
              · refine Or.inr fun j hj h3 h4 => ?_
                have : U.testBit j = true := (f1 y hy hU.1 hU.2).2 j hj (by rw [y1]; exact h3)
                show (V j || (U.testBit j && !T.testBit j)) = true
                rw [this, h4]; simp
              · refine Or.inl ⟨y, hy, y1, ?_⟩
                show (V y || (U.testBit y && !T.testBit y)) = false
                rw [y2]
                cases h5 : U.testBit y with
                | false => rfl
                | true =>
                  cases h6 : T.testBit y with
                  | true => rfl
                  | false => exact absurd ⟨h5, h6⟩ hU
            · refine Or.inr fun j hj h4 h5 => ?_
              show (V j || (U.testBit j && !T.testBit j)) = true
              rw [h3 j hj h4 h5]; rfl
      · have n10 : ¬ (1 : Int32) = 0 := by decide
        rw [if_neg n10]
        have nT : ∀ y, y < 10 → p y < 10 → T.testBit y = false := fun y hy h => by
          cases hT2 : T.testBit y with
          | false => rfl
          | true =>
            rw [s1 y hy hT2] at h
            rw [(val y hy h).2.1] at hT2; cases hT2
        have hcl : ∀ v, v < 10 → V v = true → T.testBit v = false → o v < 10 ∧ ∀ y, y < 10 → (am (o v)).testBit y = true → V y = true ∨ T.testBit y = true := fun v hv h1 h2 => by
          have ho := vo v hv h1
          refine ⟨ho, fun y hy h3 => ?_⟩
          obtain ⟨-, -, b1, b2⟩ := val v hv ho
          rcases cl (o v) b1 b2 with ⟨z, hz, z1, z2⟩ | h4
          · have e := inj v z hv hz ho z1.symm
            rw [e, z2] at h1; cases h1
          · cases h5 : T.testBit y with
            | true => exact Or.inr rfl
            | false => exact Or.inl (h4 y hy h3 h5)
        obtain ⟨w1, -, r, hr, r1, r2, r3⟩ := s6 (fun v => V v = true) hcl
        have cnt := cn_one (c := fun y => decide (o y < 10)) (d := fun y => decide (p y < 10)) hr (decide_eq_false r1) (decide_eq_true r2) (fun y hy e => by
          by_cases h : o y < 10
          · rw [decide_eq_true h, decide_eq_true ((r3 y hy e).mpr h)]
          · rw [decide_eq_false h, decide_eq_false (fun q => h ((r3 y hy e).mp q))])
        refine ⟨p, V, ?_, m1, m3, fun y z hy hz h1 h2 => s5 y z hy hz (nT y hy h1) (nT z hz (by rw [← h2]; exact h1)) h1 h2, fun y hy h => ?_, fun v hv h => by rw [w1 v hv h]; exact vo v hv h, fun q h1 h2 => ?_⟩
        · rw [cnt, nn_s, nn_s]; rfl
        · have hy2 := nT y hy h
          refine ⟨s2 y hy hy2 h, hy2, ?_⟩
          rcases (s4 (p y) h).mp ⟨y, hy, hy2, rfl⟩ with e | ⟨z, hz, z1, z2⟩
          · omega
          · obtain ⟨-, -, b1, b2⟩ := val z hz (by omega)
            omega
        · by_cases e : q = f + k
          · obtain ⟨y, hy, y1, y2⟩ := (s4 q (by omega)).mpr (Or.inl e)
            refine Or.inl ⟨y, hy, y2, ?_⟩
            cases hv : V y with
            | false => rfl
            | true =>
              have q3 := w1 y hy hv
              have q4 := val y hy (vo y hy hv)
              omega
          · rcases cl q h1 (by omega) with ⟨y, hy, y1, y2⟩ | h3
            · obtain ⟨z, hz, z1, z2⟩ := (s4 q (by omega)).mpr (Or.inr ⟨y, hy, (val y hy (by omega)).2.1, y1⟩)
              refine Or.inl ⟨z, hz, z2, ?_⟩
              cases hv : V z with
              | false => rfl
              | true =>
                have q3 := w1 z hz hv
                have e2 := inj z y hz hy (by omega) (by omega)
                rw [e2, y2] at hv; cases hv
            · exact Or.inr h3
    · obtain ⟨o, V, rfl, i1, i2, inj, val, vo, cl⟩ := hP
      have e : f + (t - f) = t := by omega
      have g1 : ¬ nn (f + (t - f)) < nn t := fun q => by have := (nn_lt (by omega) (by omega)).mp q; omega
      unfold B_Matching_most_14
      simp only [ok_ite, if_neg g1, ok_rt]
      refine ⟨congrArg nn ?_, i1⟩
      have lb := mx_lb (al := fun l j => (am l).testBit j) (o := o) hb hab (fun y hy h => (val y hy h).1) inj (t - f) f T (by omega)
      have ub := mx_ub (al := fun l j => (am l).testBit j) (V := V) (o := o) (T := T) hb (t - f) f T (fun y _ h => h) (fun l h1 h2 => (cl l h1 h2).imp id fun h j hj => h j (by omega))
      have l1 : cntN (fun y => decide (o y < 10)) 10 ≤ cntN (fun y => decide (f ≤ o y ∧ o y < f + (t - f)) && !T.testBit y) 10 := cn_le fun y hy h => by
        have h := of_decide_eq_true h
        obtain ⟨-, b2, b3, b4⟩ := val y hy h
        rw [b2, decide_eq_true ⟨b3, b4⟩]; rfl
      have u1 : cntN (fun y => decide (f ≤ o y ∧ o y < f + (t - f)) && !V y) 10 + cntN (fun y => V y && !T.testBit y) 10 ≤ cntN (fun y => decide (o y < 10)) 10 := cn_two fun y hy => by
        refine ⟨fun h => ?_, fun h => ?_, fun h => ?_⟩
        · simp only [Bool.and_eq_true, Bool.not_eq_true'] at h
          rw [h.2]; rfl
        · simp only [Bool.and_eq_true, decide_eq_true_eq] at h
          exact decide_eq_true (by omega)
        · simp only [Bool.and_eq_true] at h
          exact decide_eq_true (vo y hy h.1)
      omega
  obtain ⟨v, I1, h1, rfl, h2⟩ := hO
  exact ⟨I1, h1, h2⟩
end MO94
