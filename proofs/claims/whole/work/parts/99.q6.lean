/-! names: whether they can be, by the class -/
section NF99
theorem canbe_A {I : MI} {n : Nat} {f g o : Nat → Nat} (hn : n ≤ 12) (w29 : I 29 0 = nn 3) (h29 : I 29 3 = nn n) (hc : ∀ i, i < n → f i < 10 ∧ g i < 10 ∧ f i ≠ g i ∧ o i < 2 ∧ I 30 (3 * i) = nn (f i) ∧ I 30 (3 * i + 1) = nn (g i) ∧ I 30 (3 * i + 2) = nn (o i)) : Ok F_Riddles_groupsCanBe I fun v K => (∀ a, a ≠ 196 → a ≠ 197 → K a = I a) ∧ (∀ y, y < 10 → K 196 y = nn (LL f g o n y)) ∧ ((v = 1 ∧ CBE (LL f g o n) f g o n ∧ mskP n (fun i => LL f g o n (f i)) (fun i => LL f g o n (g i)) (fun i => o i = 0) (K 197)) ∨ (v = 0 ∧ ¬ CBE (LL f g o n) f g o n)) := by
  obtain ⟨R, q1, hR⟩ := groups_A hn w29 h29 hc
  have lok := LL_ok (f := f) (g := g) (o := o) (n := n) (fun i hi => ⟨(hc i hi).1, (hc i hi).2.1⟩) n (Nat.le_refl _)
  generalize LL f g o n = L at *
  unfold F_Riddles_groupsCanBe K_Riddles_groupsCanBe_15
  rw [ok_bn, ok_eq q1, ok_bn, ok_eq (fill_A (I := bup I 196 R) (t := 197) (v := 0) (n := 10) (by decide +kernel) (by decide))]
  refine ok_lp (fun k x K => x = nn k ∧ (∀ a, a ≠ 196 → a ≠ 197 → K a = I a) ∧ (∀ y, y < 10 → K 196 y = nn (L y)) ∧ (∀ i, i < k → o i = 0 → L (f i) ≠ L (g i)) ∧ mskP k (fun i => L (f i)) (fun i => L (g i)) (fun i => o i = 0) (K 197)) n (fun k x K hk hP => ?_) (fun x K hP => ?_) FU 0 _ (by rw [FU_eq]; omega) ⟨rfl, fun a h1 h2 => ?_, fun y hy => ?_, fun i hi => absurd hi (by omega), fun s hs => ⟨0, by decide, ?_, fun b _ => ⟨(fun q => by rw [Nat.zero_testBit] at q; cases q), (fun ⟨i, q, _⟩ => absurd q (by omega))⟩⟩⟩
  · obtain ⟨rfl, i1, i2, i3, i4⟩ := hP
    obtain ⟨hf, hg, -, ho, c1, c2, c3⟩ := hc k hk
    obtain ⟨lf, -, -⟩ := lok (f k) hf
    obtain ⟨lg, -, -⟩ := lok (g k) hg
    have hs : siz shT (29 + 1) = 36 := by decide +kernel
    have e29 : K 29 = I 29 := i1 29 (by decide) (by decide)
    have e30 : K 30 = I 30 := i1 30 (by decide) (by decide)
    have tA : ∀ j, j < 3 → F_Table_at 29 (nn k) (nn j) K = some (I 30 (3 * k + j), K) := fun j hj => by
      have q := at_ok (I := K) (t := 29) (w := 3) (n := n) (i := k) (k := j) (by rw [e29]; exact w29) (by rw [e29]; exact h29) hk hj (by rw [hs]; omega) (by omega) (by decide) (by omega)
      rw [q, show 29 + 1 = 30 from rfl, e30, Nat.mul_comm]
    have a0 : F_Table_at 29 (nn k) 0 K = some (nn (f k), K) := (tA 0 (by decide)).trans (by rw [show I 30 (3 * k + 0) = nn (f k) from c1])
    have a1 : F_Table_at 29 (nn k) 1 K = some (nn (g k), K) := (tA 1 (by decide)).trans (by rw [c2])
    have a2 : F_Table_at 29 (nn k) 2 K = some (nn (o k), K) := (tA 2 (by decide)).trans (by rw [c3])
    have gr : ∀ v, v < 10 → F_Riddles_groupOf (nn v) K = some (nn (L v), K) := fun v hv => by
      have qs := rng_in (a := 0) (b := 9) (k := v) (by decide) (Nat.zero_le v) (by omega)
      have wA : F_A_within (nn v) 0 9 = rt 1 := wi_in qs.1 qs.2
      have iv : inR (nn v) 10 = true := inR_nn hv (by omega)
      have tv : (nn v).toNatClampNeg = v := nn_nat (by omega)
      have hO : Ok (F_Riddles_groupOf (nn v)) K fun u K2 => u = nn (L v) ∧ K2 = K := by
        unfold F_Riddles_groupOf
        simp (decide := true) only [ok_bn, wA, ok_rt, ok_ite, if_false, ok_ld, iv, tv, i2 v hv, true_and, and_self]
      obtain ⟨u, K2, q1, rfl, rfl⟩ := hO
      exact q1
    have gn : nn k < nn n := (nn_lt (by omega) (by omega)).mpr hk
    have e3 : K 29 3 = nn n := by rw [e29]; exact h29
    have fe : ∀ (F : Nat → Nat), (fun i => if i = k then F k else F i) = F := fun F => by
      funext i
      by_cases e : i = k
      · subst e; rw [if_pos rfl]
      · rw [if_neg e]
    unfold B_Riddles_groupsCanBe_15
    by_cases h0 : o k = 0
    · have z0 : nn (o k) = 0 := by rw [h0]; rfl
      by_cases hl : L (f k) = L (g k)
      · have hl2 : nn (L (f k)) = nn (L (g k)) := congrArg nn hl
        simp (decide := true) only [ok_bn, ok_rd, e3, ok_ite, if_pos gn, ok_eq a0, ok_eq a1, ok_eq a2, if_pos z0, ok_eq (gr (f k) hf), ok_eq (gr (g k) hg), if_pos hl2, ok_gdZ, ok_rt, true_or, true_and]
        exact ⟨i1, i2, Or.inr fun hC => hC k hk h0 hl⟩
      · have hl2 : ¬ nn (L (f k)) = nn (L (g k)) := fun q => hl ((nn_inj (by omega) (by omega)).mp q)
        have if1 : inR (nn (L (f k))) 10 = true := inR_nn lf (by omega)
        have tf1 : (nn (L (f k))).toNatClampNeg = L (f k) := nn_nat (by omega)
        have ig1 : inR (nn (L (g k))) 10 = true := inR_nn lg (by omega)
        have tg1 : (nn (L (g k))).toNatClampNeg = L (g k) := nn_nat (by omega)
        have un : ∀ v, (upd (K 197) (L (f k)) v) (L (g k)) = K 197 (L (g k)) := fun v => upd_ne _ _ (fun e => hl e.symm)
        have mp := msk_put (ok2 := fun i => o i = 0) i4 lf lg hl (fun i _ => Iff.rfl) h0
        rw [fe (fun i => L (f i)), fe (fun i => L (g i))] at mp
        have st : B_Riddles_groupsCanBe_15 (nn k) K = some (.inl (nn (k + 1)), bup K 197 (upd (upd (K 197) (L (f k)) (K 197 (L (f k)) ||| (1 <<< (nn (L (g k)) &&& 31)))) (L (g k)) (K 197 (L (g k)) ||| (1 <<< (nn (L (f k)) &&& 31))))) := by
          have hO : Ok (B_Riddles_groupsCanBe_15 (nn k)) K fun r K2 => r = .inl (nn (k + 1)) ∧ K2 = bup K 197 (upd (upd (K 197) (L (f k)) (K 197 (L (f k)) ||| (1 <<< (nn (L (g k)) &&& 31)))) (L (g k)) (K 197 (L (g k)) ||| (1 <<< (nn (L (f k)) &&& 31)))) := by
            unfold B_Riddles_groupsCanBe_15
            simp only [ok_bn, ok_rd, e3, ok_ite, if_pos gn, ok_eq a0, ok_eq a1, ok_eq a2, if_pos z0, ok_eq (gr (f k) hf), ok_eq (gr (g k) hg), if_neg hl2, ok_ld, ok_sr, if1, tf1, ig1, tg1, bup_eq, bup_bup, un, ok_rt, nn_s, true_and, and_self]
          obtain ⟨r, K2, q2, rfl, rfl⟩ := hO
          exact q2
        refine (ok_eq st).mpr ⟨rfl, fun a n1 n2 => ?_, fun y hy => ?_, fun i hi hoi => ?_, ?_⟩
        · rw [bup_ne _ _ n2]; exact i1 a n1 n2
        · rw [bup_ne _ _ (by decide)]; exact i2 y hy
        · by_cases e : i = k
          · subst e; exact hl
          · exact i3 i (by omega) hoi
        · rw [bup_eq]; exact mp
    · have z0 : ¬ nn (o k) = 0 := nn_ne (k := 0) (by omega) (by omega) h0
      have mp := msk_no (a := L (f k)) (b := L (g k)) (ok2 := fun i => o i = 0) i4 (fun i _ => Iff.rfl) h0
      rw [fe (fun i => L (f i)), fe (fun i => L (g i))] at mp
      simp (decide := true) only [ok_bn, ok_rd, e3, ok_ite, if_pos gn, ok_eq a2, if_neg z0, ok_rt, nn_s]
      refine ⟨trivial, i1, i2, fun i hi hoi => ?_, mp⟩
      by_cases e : i = k
      · subst e; exact absurd hoi h0
      · exact i3 i (by omega) hoi
  · obtain ⟨rfl, i1, i2, i3, i4⟩ := hP
    have gn : ¬ nn n < nn n := fun q => by have := (nn_lt (by omega) (by omega)).mp q; omega
    have e3 : K 29 3 = nn n := by rw [i1 29 (by decide) (by decide)]; exact h29
    unfold B_Riddles_groupsCanBe_15
    simp (decide := true) only [ok_bn, ok_rd, e3, ok_ite, if_neg gn, ok_gdZ, ok_rt, or_true, true_and]
    exact ⟨i1, i2, Or.inl ⟨i3, i4⟩⟩
  · rw [bup_ne _ _ h2, bup_ne _ _ h1]
  · rw [bup_ne _ _ (by decide), bup_eq]; exact hR y hy
  · rw [bup_eq, if_pos hs]; rfl
end NF99
