/-! beds -/
section BE98
theorem or0 (x : Int32) : x ||| 0 = x := by
  apply bv_inj
  show x.toBitVec ||| 0#32 = x.toBitVec
  simp
theorem within_B {u v w : Int32} : F_A_within u v w = rt (if (!decide (u < v) && !decide (w < u)) = true then 1 else 0) := by
  by_cases h1 : u < v
  · rw [wi_out (Or.inl h1), decide_eq_true h1]; rfl
  · by_cases h2 : w < u
    · rw [wi_out (Or.inr h2), decide_eq_true h2, decide_eq_false h1]; rfl
    · rw [wi_in h1 h2, decide_eq_false h1, decide_eq_false h2]; rfl
theorem allow_A {I J : MI} {n b : Nat} (hn : n ≤ 8) (hb : b ≤ 8) (w39 : I 39 0 = nn 1) (w41 : I 41 0 = nn 2) (h39 : I 39 3 = nn n) (h41 : I 41 3 = nn b) (e40 : ∀ i, i < n → I 40 i = J 244 i) (e42 : ∀ j, j < b → I 42 (2 * j) = J 245 j ∧ I 42 (2 * j + 1) = J 246 j) : ∃ I1, F_Riddles_allowBeds I = some ((), I1) ∧ (∀ a, a ≠ 200 → I1 a = I a) ∧ ∀ x, x < n → I1 200 x = nn (mkF (lieB J x) b) := by
  have hO : Ok F_Riddles_allowBeds I fun _ I1 => (∀ a, a ≠ 200 → I1 a = I a) ∧ ∀ x, x < n → I1 200 x = nn (mkF (lieB J x) b) := by
    unfold F_Riddles_allowBeds K_Riddles_allowBeds_2
    refine ok_lp (fun k x K => x = nn k ∧ (∀ a, a ≠ 200 → K a = I a) ∧ ∀ y, y < k → K 200 y = nn (mkF (lieB J y) b)) n (fun k x K hk hP => ?_) (fun x K hP => ?_) FU 0 I (by rw [FU_eq]; omega) ⟨rfl, fun _ _ => rfl, fun y hy => absurd hy (by omega)⟩
    · obtain ⟨rfl, hK, hr⟩ := hP
      have e39 : K 39 = I 39 := hK 39 (by decide)
      have e41 : K 41 = I 41 := hK 41 (by decide)
      have g1 : nn k < nn n := (nn_lt (by omega) (by omega)).mpr hk
      have t0 : F_Table_at 39 (nn k) 0 K = some (J 244 k, K) := by
        have q := tab1 (I := K) (t := 39) (n := n) (k := k) (r := 8) (by rw [e39]; exact w39) (by rw [e39]; exact h39) (by decide +kernel) hn (by decide) hk
        rw [q, hK (39 + 1) (by decide)]
        rw [show 39 + 1 = 40 from rfl, e40 k hk]
      have inner : lp (B_Riddles_allowBeds_20 (nn k)) FU (0, 0) K = some (setF (lieB J k) b, K) := by
        refine set_lp (lieB J k) (by omega) (fun j x hj => ?_) (fun x => ?_)
        · have g2 : nn j < nn b := (nn_lt (by omega) (by omega)).mpr hj
          have hs : siz shT (41 + 1) = 16 := by decide +kernel
          have t1 : F_Table_at 41 (nn j) 0 K = some (J 245 j, K) := by
            have q := at_ok (I := K) (t := 41) (w := 2) (n := b) (i := j) (k := 0) (by rw [e41]; exact w41) (by rw [e41]; exact h41) hj (by decide) (by rw [hs]; omega) (by omega) (by decide) (by omega)
            have q2 : F_Table_at 41 (nn j) 0 K = some (K (41 + 1) (j * 2 + 0), K) := q
            rw [q2, hK (41 + 1) (by decide), show j * 2 + 0 = 2 * j by omega, show 41 + 1 = 42 from rfl, (e42 j hj).1]
          have t2 : F_Table_at 41 (nn j) 1 K = some (J 246 j, K) := by
            have q := at_ok (I := K) (t := 41) (w := 2) (n := b) (i := j) (k := 1) (by rw [e41]; exact w41) (by rw [e41]; exact h41) hj (by decide) (by rw [hs]; omega) (by omega) (by decide) (by omega)
            have q2 : F_Table_at 41 (nn j) 1 K = some (K (41 + 1) (j * 2 + 1), K) := q
            rw [q2, hK (41 + 1) (by decide), show j * 2 + 1 = 2 * j + 1 by omega, show 41 + 1 = 42 from rfl, (e42 j hj).2]
          have hO : Ok (B_Riddles_allowBeds_20 (nn k) (x, nn j)) K fun r K2 => r = .inl (if lieB J k j = true then x ||| (1 <<< (nn j &&& 31)) else x, nn (j + 1)) ∧ K2 = K := by
            unfold B_Riddles_allowBeds_20
            simp only [ok_bn, ok_rd, e41, h41, ok_ite, if_pos g2, ok_eq t0, ok_eq t1, ok_eq t2, within_B, ok_rt, nn_s, or0]
            unfold lieB
            cases (!decide (J 244 k < J 245 j) && !decide (J 246 j < J 244 k)) with
            | true => simp (decide := true) only [if_true, if_false, and_self]
            | false => simp (decide := true) only [if_true, if_false, and_self]
          obtain ⟨r, K2, q1, rfl, rfl⟩ := hO
          exact q1
        · have g2 : ¬ nn b < nn b := fun q => by have := (nn_lt (by omega) (by omega)).mp q; omega
          have hO : Ok (B_Riddles_allowBeds_20 (nn k) (x, nn b)) K fun r K2 => r = .inr x ∧ K2 = K := by
            unfold B_Riddles_allowBeds_20
            simp only [ok_bn, ok_rd, e41, h41, ok_ite, if_neg g2, ok_rt, and_self]
          obtain ⟨r, K2, q1, rfl, rfl⟩ := hO
          exact q1
      have qs := rng_in (a := 0) (b := 9) (k := k) (by decide) (Nat.zero_le k) (by omega)
      have wA : F_A_within (nn k) 0 9 = rt 1 := wi_in qs.1 qs.2
      have ik : inR (nn k) 10 = true := inR_nn (by omega) (by omega)
      have tk : (nn k).toNatClampNeg = k := nn_nat (by omega)
      unfold B_Riddles_allowBeds_2 K_Riddles_allowBeds_20 K_Riddles_allowBeds_96 F_Matching_allow
      simp (decide := true) only [ok_bn, ok_rd, e39, h39, ok_ite, if_pos g1, ok_eq inner, wA, if_false, ok_sr, ik, tk, ok_rt, nn_s, true_and, setF_mk _ (show b ≤ 31 by omega)]
      refine ⟨fun a ha => ?_, fun y hy => ?_⟩
      · rw [bup_ne _ _ ha]; exact hK a ha
      · rw [bup_eq]
        by_cases e : y = k
        · subst e; rw [upd_eq]
        · rw [upd_ne _ _ e]; exact hr y (by omega)
    · obtain ⟨rfl, hK, hr⟩ := hP
      have e39 : K 39 = I 39 := hK 39 (by decide)
      have g1 : ¬ nn n < nn n := fun q => by have := (nn_lt (by omega) (by omega)).mp q; omega
      unfold B_Riddles_allowBeds_2
      simp only [ok_bn, ok_rd, e39, h39, ok_ite, if_neg g1, ok_rt]
      exact ⟨hK, hr⟩
  obtain ⟨_, I1, h1, h2⟩ := hO
  exact ⟨I1, h1, h2⟩
theorem c_beds (x : Int32) : Call (F_A_beds x) (F_R_beds x) := by
  refine call_of fun I J hr => ?_
  have told := rl_told hr
  unfold F_A_beds F_R_beds K_R_beds_28 F_Riddles_bootsAbed F_Riddles_bedOf
  simp only [ok_bn, ok_wr]
  generalize hK : bup J 207 (upd (J 207) 0 0) = K at *
  obtain ⟨⟨-, -, -, -, -, -, -, -, -, -, -, -, k13, k14, -, -⟩, -, -, -, kc⟩ := id told
  obtain ⟨n, hn, h39, h61, hs⟩ := k13
  obtain ⟨b, hb, h41, h63, hd⟩ := k14
  have h39' : I 39 3 = nn n := h39
  obtain ⟨I1, a1, a2, a3⟩ := allow_A (I := I) (J := K) hn hb (con_at kc (t := 39) (w := 1) (r := 8) (by decide)).1 (con_at kc (t := 41) (w := 2) (r := 8) (by decide)).1 h39 h41 (fun i hi => by
    obtain ⟨m, -, q1, q2⟩ := hs i hi
    exact q1.trans q2.symm) (fun j hj => by
    obtain ⟨⟨m, -, q1, q2⟩, m2, -, q3, q4⟩ := hd j hj
    exact ⟨q1.trans q2.symm, q3.trans q4.symm⟩)
  have fe : (fun l j => (mkF (lieB K l) b).testBit j) = alB K b := by
    funext l j
    rw [tb_mk]; rfl
  have hab : ∀ l j, (mkF (lieB K l) b).testBit j = true → j < b := fun l j h => by
    rw [tb_mk] at h
    exact of_decide_eq_true (and_mp h).1
  have e39 : I1 39 3 = nn n := by rw [a2 39 (by decide)]; exact h39
  have sz : siz shT (199 + 2) = 10 := by decide +kernel
  have hA1 : ∀ x, x < n → I1 (199 + 1) x = nn (mkF (lieB K x) b) := a3
  obtain ⟨_, K2, b1, b2⟩ := bt_all (J0 := K) hn hb h61 h63
  have fin : ∀ I2 : MI, (∀ a, a ≠ 199 → a ≠ 201 → I2 a = I1 a) → Rl I2 K2 := fun I2 h => by
    refine rl_none [199, 200, 201] [247] [0] hr (fun a ha => ?_) ⟨fun a ha => ?_, fun k hk => ?_⟩ (fun t ht => ?_) ?_ ?_ ?_ rfl
    · have n1 : a ≠ 199 := fun e => by subst e; cases ha
      have n2 : a ≠ 200 := fun e => by subst e; cases ha
      have n3 : a ≠ 201 := fun e => by subst e; cases ha
      rw [h a n1 n3, a2 a n2]
    · have n1 : a ≠ 207 := fun e => by subst e; cases ha
      have n2 : a ≠ 247 := fun e => by subst e; cases ha
      rw [b2.1 a n2, ← hK, bup_ne _ _ n1]
    · have n1 : k ≠ 0 := fun e => by subst e; cases hk
      rw [b2.1 207 (by decide), ← hK, bup_eq, upd_ne _ _ n1]
    · have tb : ∀ t, t ∈ tabL → t < 199 := by decide
      have := tb t (memN_iff.mp ht)
      rw [h t (by omega) (by omega), a2 t (by omega)]; exact ⟨rfl, rfl⟩
    · rw [h 0 (by decide) (by decide), a2 0 (by decide)]
    · rw [h 0 (by decide) (by decide), a2 0 (by decide)]
    · rw [h 0 (by decide) (by decide), a2 0 (by decide)]
  by_cases x0 : x = 0
  · subst x0
    obtain ⟨I2, q1, q2⟩ := most_ok (r0 := 199) (b := b) (f := 0) (t := n) (T := 0) (am := fun x => mkF (lieB K x) b) (I := I1) sz hA1 (by omega) hab (Nat.zero_le _) (by omega) (by decide)
    rw [fe] at q1
    have q1' : F_Matching_most 199 0 (nn n) 0 I1 = some (nn (mx (alB K b) b (n - 0) 0 0), I2) := q1
    have v0 : K2 247 0 = nn (mx (alB K b) b (n - 0) 0 0) := b2.2 0 0 (Nat.le_refl _) (Nat.zero_le _) (Nat.two_pow_pos b)
    have i0 : inR (0 : Int32) 2304 = true := by decide
    have t0 : (0 : Int32).toNatClampNeg = 0 := by decide
    simp (decide := true) only [if_true, ok_bn, ok_eq a1, ok_rd, e39, ok_eq q1', ok_rt, ok_eq b1, ok_ld, i0, t0, v0, true_and]
    exact fin I2 q2
  · by_cases x1 : x < 10
    · have o : F_R_isIn x 10 (9 + nn n) = rt 0 := ri_out (Or.inl x1)
      simp (decide := true) only [if_neg x0, if_pos x1, if_true, ok_bn, ok_rd, h61, o, ok_rt, true_and]
      exact told
    · have hx10 : (x - 10).toInt = x.toInt - 10 := by
        rw [Int32.lt_iff_toInt_lt] at x1
        have e10 : (10 : Int32).toInt = 10 := rfl
        rw [e10] at x1
        have hle := x.toInt_le
        have h5 : Int32.maxValue.toInt = 2147483647 := rfl
        rw [Int32.toInt_sub, e10]
        exact Int.bmod_eq_of_le (by omega) (by omega)
      have e9 : (9 : Int32) + nn n = nn (9 + n) := nn_add 9 n
      by_cases x2 : x - 10 < nn n
      · have x1' := x1
        rw [Int32.lt_iff_toInt_lt] at x1'
        have e10 : (10 : Int32).toInt = 10 := rfl
        rw [e10] at x1'
        obtain ⟨t, ht, et⟩ := of_lt (x := x - 10) (n := n) (by omega) (by
          rw [Int32.lt_iff_toInt_lt, hx10]
          have e0 : (0 : Int32).toInt = 0 := rfl
          rw [e0]; omega) x2
        have o : F_R_isIn x 10 (9 + nn n) = rt 1 := ri_in x1 (by
          rw [e9, Int32.lt_iff_toInt_lt, nn_toInt (by omega)]
          rw [Int32.lt_iff_toInt_lt, hx10, nn_toInt (by omega)] at x2
          omega)
        have fA := first_A (r0 := 199) (n := n) (b := b) (t := t) (am := fun x => mkF (lieB K x) b) (I := I1) sz hA1 (by omega) hab (by omega) ht
        rw [fe] at fA
        obtain ⟨v, I2, q1, hv, q2⟩ := fA
        rw [hv] at q1
        clear hv
        have fR := bedOf_R (J0 := K) (J := K2) hn hb ht h63 b2
        have x2' : nn t < nn n := (nn_lt (by omega) (by omega)).mpr ht
        generalize own (lsT (ccB (alB K b) b n t (sqS (alB K b) b n t)) 10) = w at *
        simp (decide := true) only [if_neg x0, if_neg x1, ok_ite, ok_bn, ok_rd, h39', h61, if_pos x2', if_false, et, ok_eq a1, e39, ok_eq q1, ok_rt, o, ok_eq b1, ok_eq fR, true_and]
        exact fin I2 q2
      · have o : F_R_isIn x 10 (9 + nn n) = rt 0 := ri_out (Or.inr (by
          rw [e9, Int32.lt_iff_toInt_lt, nn_toInt (by omega)]
          rw [Int32.lt_iff_toInt_lt, hx10, nn_toInt (by omega)] at x2
          omega))
        simp (decide := true) only [if_neg x0, if_neg x1, ok_ite, ok_bn, ok_rd, h39', h61, if_neg x2, if_true, ok_rt, o, true_and]
        exact told
end BE98
