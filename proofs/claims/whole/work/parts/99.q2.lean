/-! names: both find the groups -/
section NB99
theorem groups_A {I : MI} {n : Nat} {f g o : Nat → Nat} (hn : n ≤ 12) (w29 : I 29 0 = nn 3) (h29 : I 29 3 = nn n) (hc : ∀ i, i < n → f i < 10 ∧ g i < 10 ∧ f i ≠ g i ∧ o i < 2 ∧ I 30 (3 * i) = nn (f i) ∧ I 30 (3 * i + 1) = nn (g i) ∧ I 30 (3 * i + 2) = nn (o i)) : ∃ R, F_Riddles_groups I = some (nn (rpN (LL f g o n)), bup I 196 R) ∧ ∀ y, y < 10 → R y = nn (LL f g o n y) := by
  have hO : Ok F_Riddles_groups I fun v K => v = nn (rpN (LL f g o n)) ∧ ∃ R, K = bup I 196 R ∧ ∀ y, y < 10 → R y = nn (LL f g o n y) := by
    unfold F_Riddles_groups K_Riddles_groups_2 K_Riddles_groups_21 K_Riddles_groups_26
    rw [ok_bn]
    refine ok_mono (Q := fun _ K => ∃ R, K = bup I 196 R ∧ ∀ y, y < 10 → R y = nn y) ?_ fun _ K q => ?_
    · refine ok_lp (fun k x K => x = nn k ∧ ∃ R, K = bup I 196 R ∧ ∀ y, y < k → R y = nn y) 10 (fun k x K hk hP => ?_) (fun x K hP => ?_) FU 0 I (by rw [FU_eq]; omega) ⟨rfl, I 196, (bup_self I 196).symm, fun y hy => absurd hy (by omega)⟩
      · obtain ⟨rfl, R, rfl, hR⟩ := hP
        have gk : nn k < 10 := (nn_lt (k := 10) (by omega) (by omega)).mpr hk
        have ik : inR (nn k) 10 = true := inR_nn hk (by omega)
        have tk : (nn k).toNatClampNeg = k := nn_nat (by omega)
        unfold B_Riddles_groups_2
        simp only [ok_ite, if_pos gk, ok_bn, ok_sr, ik, tk, ok_rt, nn_s, true_and, bup_eq, bup_bup]
        refine ⟨_, rfl, fun y hy => ?_⟩
        by_cases e : y = k
        · subst e; rw [upd_eq]
        · rw [upd_ne _ _ e]; exact hR y (by omega)
      · obtain ⟨rfl, R, rfl, hR⟩ := hP
        have gk : ¬ nn 10 < 10 := by decide
        unfold B_Riddles_groups_2
        simp only [ok_ite, if_neg gk, ok_rt]
        exact ⟨R, rfl, hR⟩
    · obtain ⟨R, rfl, hR⟩ := q
      refine ok_lp (fun k x K => x = (nn (rpN (LL f g o k)), nn k) ∧ ∃ R, K = bup I 196 R ∧ ∀ y, y < 10 → R y = nn (LL f g o k y)) n (fun k x K hk hP => ?_) (fun x K hP => ?_) FU (10, 0) _ (by rw [FU_eq]; omega) ⟨?_, R, rfl, hR⟩
      · obtain ⟨rfl, R, rfl, hR⟩ := hP
        obtain ⟨hf, hg, -, ho, c1, c2, c3⟩ := hc k hk
        have lok := LL_ok (f := f) (g := g) (o := o) (n := n) (fun i hi => ⟨(hc i hi).1, (hc i hi).2.1⟩) k (by omega)
        obtain ⟨lf, -, -⟩ := lok (f k) hf
        obtain ⟨lg, -, -⟩ := lok (g k) hg
        have hs : siz shT (29 + 1) = 36 := by decide +kernel
        have e29 : (bup I 196 R) 29 = I 29 := bup_ne _ _ (by decide)
        have tA : ∀ j, j < 3 → F_Table_at 29 (nn k) (nn j) (bup I 196 R) = some (I 30 (3 * k + j), bup I 196 R) := fun j hj => by
          have q := at_ok (I := bup I 196 R) (t := 29) (w := 3) (n := n) (i := k) (k := j) (by rw [e29]; exact w29) (by rw [e29]; exact h29) hk hj (by rw [hs]; omega) (by omega) (by decide) (by omega)
          rw [q, bup_ne _ _ (by decide), Nat.mul_comm]
        have a0 : F_Table_at 29 (nn k) 0 (bup I 196 R) = some (nn (f k), bup I 196 R) := (tA 0 (by decide)).trans (by rw [show I 30 (3 * k + 0) = nn (f k) from c1])
        have a1 : F_Table_at 29 (nn k) 1 (bup I 196 R) = some (nn (g k), bup I 196 R) := (tA 1 (by decide)).trans (by rw [c2])
        have a2 : F_Table_at 29 (nn k) 2 (bup I 196 R) = some (nn (o k), bup I 196 R) := (tA 2 (by decide)).trans (by rw [c3])
        have gr : ∀ v, v < 10 → F_Riddles_groupOf (nn v) (bup I 196 R) = some (nn (LL f g o k v), bup I 196 R) := fun v hv => by
          have qs := rng_in (a := 0) (b := 9) (k := v) (by decide) (Nat.zero_le v) (by omega)
          have wA : F_A_within (nn v) 0 9 = rt 1 := wi_in qs.1 qs.2
          have iv : inR (nn v) 10 = true := inR_nn hv (by omega)
          have tv : (nn v).toNatClampNeg = v := nn_nat (by omega)
          have hO : Ok (F_Riddles_groupOf (nn v)) (bup I 196 R) fun u K => u = nn (LL f g o k v) ∧ K = bup I 196 R := by
            unfold F_Riddles_groupOf
            simp (decide := true) only [ok_bn, wA, ok_rt, ok_ite, if_false, ok_ld, iv, tv, bup_eq, hR v hv, true_and, and_self]
          obtain ⟨u, K, q1, rfl, rfl⟩ := hO
          exact q1
        have gn : nn k < nn n := (nn_lt (by omega) (by omega)).mpr hk
        have e3 : (bup I 196 R) 29 3 = nn n := by rw [e29]; exact h29
        have sL : LL f g o (k + 1) = if o k = 1 then mrg (LL f g o k) (f k) (g k) else LL f g o k := rfl
        have r10 := (cntF_N (fun y => decide (LL f g o k y = y)) 10).2
        unfold B_Riddles_groups_26
        simp only [ok_bn, ok_rd, e3, ok_ite, if_pos gn, ok_eq a0, ok_eq a1, ok_eq a2, ok_eq (gr (f k) hf), ok_eq (gr (g k) hg), ok_rt, nn_s]
        by_cases h1 : o k = 1
        · have e1 : nn (o k) = 1 := by rw [h1]; rfl
          rw [if_pos e1, sL, if_pos h1]
          by_cases h2 : LL f g o k (f k) = LL f g o k (g k)
          · rw [if_pos (congrArg nn h2)]
            have em : mrg (LL f g o k) (f k) (g k) = LL f g o k := by
              funext y
              unfold mrg
              rw [h2, Nat.max_self, Nat.min_self]
              by_cases e : LL f g o k y = LL f g o k (g k)
              · rw [if_pos e, e]
              · rw [if_neg e]
            rw [em]
            exact ⟨rfl, R, rfl, hR⟩
          · rw [if_neg (fun q => h2 ((nn_inj (by omega) (by omega)).mp q))]
            have emax : (if nn (LL f g o k (f k)) < nn (LL f g o k (g k)) then nn (LL f g o k (g k)) else nn (LL f g o k (f k))) = nn (max (LL f g o k (f k)) (LL f g o k (g k))) := by
              by_cases q : LL f g o k (f k) < LL f g o k (g k)
              · rw [if_pos ((nn_lt (by omega) (by omega)).mpr q), Nat.max_eq_right (by omega)]
              · rw [if_neg (fun z => q ((nn_lt (by omega) (by omega)).mp z)), Nat.max_eq_left (by omega)]
            have emin : (if nn (LL f g o k (g k)) < nn (LL f g o k (f k)) then nn (LL f g o k (g k)) else nn (LL f g o k (f k))) = nn (min (LL f g o k (f k)) (LL f g o k (g k))) := by
              rw [min_nn (by omega) (by omega), Nat.min_comm]
            rw [emax, emin]
            have rp := rp_mrg hf hg lok h2
            have ren : Ok (F_Riddles_rename (nn (max (LL f g o k (f k)) (LL f g o k (g k)))) (nn (min (LL f g o k (f k)) (LL f g o k (g k))))) (bup I 196 R) fun _ K => ∃ R2, K = bup I 196 R2 ∧ ∀ y, y < 10 → R2 y = nn (mrg (LL f g o k) (f k) (g k) y) := by
              unfold F_Riddles_rename K_Riddles_rename_2
              refine ok_lp (fun j x K => x = nn j ∧ ∃ R2, K = bup I 196 R2 ∧ (∀ y, y < j → R2 y = nn (mrg (LL f g o k) (f k) (g k) y)) ∧ ∀ y, j ≤ y → y < 10 → R2 y = R y) 10 (fun j x K hj hP => ?_) (fun x K hP => ?_) FU 0 _ (by rw [FU_eq]; omega) ⟨rfl, R, rfl, fun y hy => absurd hy (by omega), fun y _ _ => rfl⟩
              · obtain ⟨rfl, R2, rfl, q1, q2⟩ := hP
                have gj : nn j < 10 := (nn_lt (k := 10) (by omega) (by omega)).mpr hj
                have ij : inR (nn j) 10 = true := inR_nn hj (by omega)
                have tj : (nn j).toNatClampNeg = j := nn_nat (by omega)
                obtain ⟨lj, -, -⟩ := lok j hj
                have ej : R2 j = nn (LL f g o k j) := by rw [q2 j (Nat.le_refl _) hj]; exact hR j hj
                unfold B_Riddles_rename_2
                simp only [ok_ite, if_pos gj, ok_bn, ok_ld, ij, tj, bup_eq, ej, ok_sr, ok_rt, nn_s, true_and, bup_bup]
                by_cases e : LL f g o k j = max (LL f g o k (f k)) (LL f g o k (g k))
                · rw [if_pos (congrArg nn e)]
                  refine ⟨_, rfl, fun y hy => ?_, fun y h3 h4 => ?_⟩
                  · by_cases e2 : y = j
                    · subst e2; rw [upd_eq]; unfold mrg; rw [if_pos e]
                    · rw [upd_ne _ _ e2]; exact q1 y (by omega)
                  · rw [upd_ne _ _ (by omega)]; exact q2 y (by omega) h4
                · rw [if_neg (fun z => e ((nn_inj (by omega) (by omega)).mp z))]
                  refine ⟨R2, rfl, fun y hy => ?_, fun y h3 h4 => q2 y (by omega) h4⟩
                  by_cases e2 : y = j
                  · subst e2; rw [ej]; unfold mrg; rw [if_neg e]
                  · exact q1 y (by omega)
              · obtain ⟨rfl, R2, rfl, q1, q2⟩ := hP
                have gj : ¬ nn 10 < 10 := by decide
                unfold B_Riddles_rename_2
                simp only [ok_ite, if_neg gj, ok_rt]
                exact ⟨R2, rfl, q1⟩
            refine ok_mono ren fun _ K q => ?_
            obtain ⟨R2, rfl, q2⟩ := q
            have ec : nn (rpN (LL f g o k)) + (-1 : Int32) = nn (rpN (mrg (LL f g o k) (f k) (g k))) := by
              rw [rp, pm1 (by omega), Nat.add_sub_cancel]
            rw [ec]
            exact ⟨rfl, R2, rfl, q2⟩
        · have e1 : ¬ nn (o k) = 1 := nn_ne (k := 1) (by omega) (by omega) h1
          rw [if_neg e1, sL, if_neg h1]
          exact ⟨rfl, R, rfl, hR⟩
      · obtain ⟨rfl, R, rfl, hR⟩ := hP
        have gn : ¬ nn n < nn n := fun q => by have := (nn_lt (by omega) (by omega)).mp q; omega
        have e3 : (bup I 196 R) 29 3 = nn n := by rw [bup_ne _ _ (by decide)]; exact h29
        unfold B_Riddles_groups_26
        simp only [ok_bn, ok_rd, e3, ok_ite, if_neg gn, ok_rt]
        exact ⟨trivial, R, rfl, hR⟩
      · have e : rpN (LL f g o 0) = 10 := rp_id
        rw [e]; rfl
  obtain ⟨v, K, h1, rfl, R, rfl, h2⟩ := hO
  exact ⟨R, h1, h2⟩
end NB99
