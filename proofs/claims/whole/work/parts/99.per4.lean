/-! persons -/
section PH99
theorem fewest_R {J0 : MI} {n : Nat} {al : Nat → Nat → Bool} (hn : n ≤ 10) (h44 : J0 207 44 = nn n) (hal : ∀ l j, al l j = true → j < n) (hcan : ∀ K : MI, (∀ a, a ≠ 233 → a ≠ 234 → K a = J0 a) → ∀ x y, x < n → y < n → F_R_canCome (nn x) (nn y) K = some (if al x y = true then 1 else 0, K)) : Ok F_R_fewestPersons J0 fun v K => v = nn (n - mx al n n 0 0) ∧ ∀ a, a ≠ 233 → a ≠ 234 → K a = J0 a := by
  have p2 : 2 ^ n ≤ 1024 := by
    have : (2 : Nat) ^ n ≤ 2 ^ 10 := Nat.pow_le_pow_right (by decide) hn
    exact this
  unfold F_R_fewestPersons K_R_fewestPersons_9 K_R_fewestPersons_37 K_R_fewestPersons_39 K_R_fewestPersons_191 K_R_fewestPersons_195
  rw [ok_bn, ok_rd, h44, shl_nn (by omega), ok_bn]
  obtain ⟨N, hN⟩ : ∃ N, N = 2 ^ n := ⟨_, rfl⟩
  rw [← hN] at p2 ⊢
  refine ok_mono (Q := fun _ K => PF al J0 N 0 K) ?_ fun _ K q => ?_
  · refine ok_lp (fun S x K => x = nn S ∧ (∀ a, a ≠ 233 → a ≠ 234 → K a = J0 a) ∧ ∀ R, R < S → VV (Ach al 0 R) 0 R (K 233 R)) N (fun S x K hS hP => ?_) (fun x K hP => ?_) FU 0 J0 (by rw [FU_eq]; omega) ⟨rfl, fun _ _ _ => rfl, fun R hR => absurd hR (by omega)⟩
    · obtain ⟨rfl, i1, i3⟩ := hP
      have g : nn S < nn N := (nn_lt (by omega) (by omega)).mpr hS
      have j2 : inR (nn S) 1024 = true := inR_nn (by omega) (by omega)
      have t2 : (nn S).toNatClampNeg = S := nn_nat (by omega)
      unfold B_R_fewestPersons_9
      by_cases hz : S = 0
      · subst hz
        have z0 : nn 0 = 0 := rfl
        simp only [ok_ite, if_pos g, if_pos z0, ok_bn, ok_sr, j2, t2, ok_rt, nn_s, true_and]
        refine ⟨fun a n1 n2 => ?_, fun R hR => ?_⟩
        · rw [bup_ne _ _ n1]; exact i1 a n1 n2
        · have e : R = 0 := by omega
          subst e
          rw [bup_eq, upd_eq]
          refine Or.inl ⟨rfl, ?_⟩
          have : cnS 0 = 0 := by decide
          rw [this]; rfl
      · have z0 : ¬ nn S = 0 := nn_ne (k := 0) (by omega) (by omega) hz
        simp only [ok_ite, if_pos g, if_neg z0, ok_bn, ok_sr, j2, t2, ok_rt, nn_s, true_and]
        refine ⟨fun a n1 n2 => ?_, fun R hR => ?_⟩
        · rw [bup_ne _ _ n1]; exact i1 a n1 n2
        · rw [bup_eq]
          by_cases e : R = S
          · subst e
            rw [upd_eq]
            exact Or.inr ⟨fun h => hz h, by decide, by decide⟩
          · rw [upd_ne _ _ e]; exact i3 R (by omega)
    · obtain ⟨rfl, i1, i3⟩ := hP
      have g : ¬ nn N < nn N := fun q => by have := (nn_lt (by omega) (by omega)).mp q; omega
      unfold B_R_fewestPersons_9
      simp only [ok_ite, if_neg g, ok_rt]
      exact ⟨i1, i3⟩
  · rw [ok_bn]
    refine ok_mono (Q := fun _ K => PF al J0 N n K) ?_ fun _ K q => ?_
    · refine ok_lp (fun i x K => x = nn i ∧ PF al J0 N i K) n (fun i x K hi hP => ?_) (fun x K hP => ?_) FU 0 K (by rw [FU_eq]; omega) ⟨rfl, q⟩
      · obtain ⟨rfl, hP⟩ := hP
        have e44 : K 207 44 = nn n := by rw [hP.1 207 (by decide) (by decide)]; exact h44
        have g : nn i < nn n := (nn_lt (by omega) (by omega)).mpr hi
        unfold B_R_fewestPersons_39
        simp only [ok_bn, ok_rd, e44, ok_ite, if_pos g]
        refine ok_mono (round_PF hN hn hi h44 hal hcan hP) fun r K2 q2 => ?_
        obtain ⟨rfl, q2⟩ := q2
        exact ⟨rfl, q2⟩
      · obtain ⟨rfl, hP⟩ := hP
        have e44 : K 207 44 = nn n := by rw [hP.1 207 (by decide) (by decide)]; exact h44
        have g : ¬ nn n < nn n := fun q => by have := (nn_lt (by omega) (by omega)).mp q; omega
        unfold B_R_fewestPersons_39
        simp only [ok_bn, ok_rd, e44, ok_ite, if_neg g, ok_rt]
        exact hP
    · obtain ⟨k1, k2⟩ := q
      have e44 : K 207 44 = nn n := by rw [k1 207 (by decide) (by decide)]; exact h44
      refine ok_lp (fun S y L => L = K ∧ ∃ m, m ≤ 10 ∧ y = (nn m, nn S) ∧ (∀ R, R < S → Ach al n R → cnS R ≤ m) ∧ (m = 0 ∨ ∃ R, Ach al n R ∧ cnS R = m)) N (fun S y L hS hP => ?_) (fun y L hP => ?_) FU (0, 0) K (by rw [FU_eq]; omega) ⟨rfl, 0, by decide, rfl, fun R hR => absurd hR (by omega), Or.inl rfl⟩
      · obtain ⟨rfl, m, hm, rfl, m1, m2⟩ := hP
        have g : nn S < nn N := (nn_lt (by omega) (by omega)).mpr hS
        have j2 : inR (nn S) 1024 = true := inR_nn (by omega) (by omega)
        have t2 : (nn S).toNatClampNeg = S := nn_nat (by omega)
        have c1 := cnS_le S
        unfold B_R_fewestPersons_195
        simp only [ok_ite, if_pos g, ok_bn, ok_ld, j2, t2, ok_eq (gr_J _ _ L), ok_rt, nn_s, true_and]
        rcases k2 S hS with ⟨a1, a2⟩ | ⟨a1, a2, a3⟩
        · rw [a2]
          by_cases hq : cnS S < m
          · rw [if_pos ((nn_lt (by omega) (by omega)).mpr hq)]
            refine ⟨m, hm, rfl, fun R hR hA => ?_, m2⟩
            by_cases e : R = S
            · subst e; omega
            · exact m1 R (by omega) hA
          · rw [if_neg (fun q => hq ((nn_lt (by omega) (by omega)).mp q))]
            refine ⟨cnS S, c1, rfl, fun R hR hA => ?_, Or.inr ⟨S, a1, rfl⟩⟩
            by_cases e : R = S
            · subst e; omega
            · have := m1 R (by omega) hA; omega
        · rw [if_pos (by
            rw [Int32.lt_iff_toInt_lt, nn_toInt (by omega)]
            omega)]
          refine ⟨m, hm, rfl, fun R hR hA => ?_, m2⟩
          by_cases e : R = S
          · subst e; exact absurd hA a1
          · exact m1 R (by omega) hA
      · obtain ⟨rfl, m, hm, rfl, m1, m2⟩ := hP
        have g : ¬ nn N < nn N := fun q => by have := (nn_lt (by omega) (by omega)).mp q; omega
        have em : m = mx al n n 0 0 := by
          obtain ⟨S, s0, s1, s2⟩ := ach_ex (al := al) (b := n) (n := n) hn n (Nat.le_refl _)
          have z : mx al n (n - n) n S = 0 := by rw [Nat.sub_self]; rfl
          have l1 := m1 S (by rw [hN]; exact s0) s1
          rcases m2 with e | ⟨R, r1, r2⟩
          · omega
          · have u := ach_ub (al := al) (b := n) (n := n) hn hal n (Nat.le_refl _) R r1
            omega
        have mle := mx_le (al := al) (b := n) n 0 0
        unfold B_R_fewestPersons_195
        simp only [ok_ite, if_neg g, ok_bn, ok_rd, e44, ok_rt]
        rw [← em]
        exact ⟨nn_sub (by omega), k1⟩
theorem fewest_A {I J K : MI} {n : Nat} {al : Nat → Nat → Bool} (hn : n ≤ 10) (h27 : I 27 3 = nn n) (hal : ∀ l j, al l j = true → j < n) (hcan : ∀ L : MI, (∀ a, a ≠ 193 → L a = I a) → ∀ x y, x < n → y < n → F_Port_canFollow (nn x) (nn y) L = some (if al x y = true then 1 else 0, L)) : Ok (K_Port_fewestPersons_17 (nn n) 0) I fun v L => v = nn (n - mx al n n 0 0) ∧ ∀ a, a ≠ 192 → a ≠ 193 → a ≠ 194 → L a = I a := by
  unfold K_Port_fewestPersons_17
  refine ok_lp (fun k x L => x = nn k ∧ (∀ a, a ≠ 193 → L a = I a) ∧ ∀ y, y < k → L 193 y = nn (mkF (al y) n)) n (fun k x L hk hP => ?_) (fun x L hP => ?_) FU 0 I (by rw [FU_eq]; omega) ⟨rfl, fun _ _ => rfl, fun y hy => absurd hy (by omega)⟩
  · obtain ⟨rfl, hL, hr⟩ := hP
    have g1 : nn k < nn n := (nn_lt (by omega) (by omega)).mpr hk
    have inner : lp (B_Port_fewestPersons_27 (nn n) (nn k)) FU (0, 0) L = some (setF (al k) n, L) := by
      refine set_lp (al k) (by omega) (fun j x hj => ?_) (fun x => ?_)
      · have g2 : nn j < nn n := (nn_lt (by omega) (by omega)).mpr hj
        have cc := hcan L hL k j hk hj
        have hO : Ok (B_Port_fewestPersons_27 (nn n) (nn k) (x, nn j)) L fun r K2 => r = .inl (if al k j = true then x ||| (1 <<< (nn j &&& 31)) else x, nn (j + 1)) ∧ K2 = L := by
          unfold B_Port_fewestPersons_27
          cases hc : al k j with
          | true => rw [hc] at cc; simp (decide := true) only [ok_bn, ok_ite, if_pos g2, ok_eq cc, ok_rt, nn_s, if_true, if_false, and_self]
          | false => rw [hc] at cc; simp (decide := true) only [ok_bn, ok_ite, if_pos g2, ok_eq cc, ok_rt, nn_s, or0, if_true, if_false, and_self]
        obtain ⟨r, K2, q1, rfl, rfl⟩ := hO
        exact q1
      · have g2 : ¬ nn n < nn n := fun q => by have := (nn_lt (by omega) (by omega)).mp q; omega
        have hO : Ok (B_Port_fewestPersons_27 (nn n) (nn k) (x, nn n)) L fun r K2 => r = .inr x ∧ K2 = L := by
          unfold B_Port_fewestPersons_27
          simp only [ok_ite, if_neg g2, ok_rt, and_self]
        obtain ⟨r, K2, q1, rfl, rfl⟩ := hO
        exact q1
    have qs := rng_in (a := 0) (b := 9) (k := k) (by decide) (Nat.zero_le k) (by omega)
    have wA : F_A_within (nn k) 0 9 = rt 1 := wi_in qs.1 qs.2
    have ik : inR (nn k) 10 = true := inR_nn (by omega) (by omega)
    have tk : (nn k).toNatClampNeg = k := nn_nat (by omega)
    unfold B_Port_fewestPersons_17 K_Port_fewestPersons_27 K_Port_fewestPersons_60 F_Matching_allow
    simp (decide := true) only [ok_bn, ok_ite, if_pos g1, ok_eq inner, wA, if_false, ok_sr, ik, tk, ok_rt, nn_s, true_and, setF_mk _ (show n ≤ 31 by omega)]
    refine ⟨fun a ha => ?_, fun y hy => ?_⟩
    · rw [bup_ne _ _ ha]; exact hL a ha
    · rw [bup_eq]
      by_cases e : y = k
      · subst e; rw [upd_eq]
      · rw [upd_ne _ _ e]; exact hr y (by omega)
  · obtain ⟨rfl, hL, hr⟩ := hP
    have g1 : ¬ nn n < nn n := fun q => by have := (nn_lt (by omega) (by omega)).mp q; omega
    have fe : (fun l j => (mkF (al l) n).testBit j) = al := by
      funext l j
      rw [tb_mk]
      cases h : al l j with
      | false => rw [Bool.and_false]
      | true => rw [decide_eq_true (hal l j h)]; rfl
    have hab : ∀ l j, (mkF (al l) n).testBit j = true → j < n := fun l j h => by
      rw [tb_mk] at h
      exact of_decide_eq_true (and_mp h).1
    obtain ⟨I2, q1, q2⟩ := most_ok (r0 := 192) (b := n) (f := 0) (t := n) (T := 0) (am := fun x => mkF (al x) n) (I := L) (by decide +kernel) (fun x hx => hr x hx) hn hab (Nat.zero_le _) hn (by decide)
    rw [fe] at q1
    have q1' : F_Matching_most 192 0 (nn n) 0 L = some (nn (mx al n n 0 0), I2) := q1
    have mle := mx_le (al := al) (b := n) n 0 0
    unfold B_Port_fewestPersons_17
    simp only [ok_ite, if_neg g1, ok_bn, ok_eq q1', ok_rt]
    exact ⟨nn_sub (by omega), fun a n1 n2 n3 => (q2 a n1 n3).trans (hL a n2)⟩
theorem c_persons (x y : Int32) : Call (F_A_persons x y) (F_R_persons x y) := by
  refine call_of fun I J hr => ?_
  have told := rl_told hr
  have rmap := rl_map hr
  unfold F_A_persons F_R_persons F_Port_fewestPersons F_Port_minutes
  simp only [ok_bn, ok_wr]
  generalize hK : bup J 207 (upd (J 207) 0 0) = K at *
  obtain ⟨⟨-, -, -, -, -, k6, k7, -⟩, -, -, -, kc⟩ := id told
  obtain ⟨B, hB1, hB2, hB3⟩ := map_ok (I := I) (J := K) k6 (con_at kc (t := 25) (w := 2) (r := 16) (by decide)).1
  by_cases x0 : x = -1
  · subst x0
    obtain ⟨n, hn, c1, c2, hs⟩ := k7
    have w27 := (con_at kc (t := 27) (w := 2) (r := 10) (by decide)).1
    have c1' : I 27 3 = nn n := c1
    have e27 : (bup I 191 B) 27 3 = nn n := by rw [bup_ne _ _ (by decide)]; exact c1'
    have gen : ∀ L M : MI, L 27 = I 27 → L 28 = I 28 → L 191 = B → M 231 = K 231 → M 232 = K 232 → M 228 = K 228 → ∀ a b, a < n → b < n → ∃ v, (v = 0 ∨ v = 1) ∧ F_Port_canFollow (nn a) (nn b) L = some (v, L) ∧ F_R_canCome (nn a) (nn b) M = some (v, M) := fun L M l1 l2 l3 m1 m2 m3 a b ha hb => can_AR hn ha hb (by rw [l1]; exact w27) (by rw [l1]; exact c1') (fun i hi => by rw [l2, m1, m2]; exact hs i hi) (fun s hs => by rw [l3, m3]; exact hB2 s hs) (fun s hs => by rw [l3]; exact hB3 s hs)
    have vK : ∀ L : MI, L 27 = I 27 → L 28 = I 28 → L 191 = B → ∀ a b, a < n → b < n → F_Port_canFollow (nn a) (nn b) L = some (if (decide (b < n) && canB K a b) = true then 1 else 0, L) ∧ F_R_canCome (nn a) (nn b) K = some (if (decide (b < n) && canB K a b) = true then 1 else 0, K) := fun L l1 l2 l3 a b ha hb => by
      obtain ⟨v, hv, v1, v2⟩ := gen L K l1 l2 l3 rfl rfl rfl a b ha hb
      have e : (if (decide (b < n) && canB K a b) = true then (1 : Int32) else 0) = v := by
        unfold canB
        rw [v2, decide_eq_true hb]
        rcases hv with rfl | rfl <;> rfl
      rw [e]
      exact ⟨v1, v2⟩
    have hal : ∀ l j, (decide (j < n) && canB K l j) = true → j < n := fun l j h => of_decide_eq_true (and_mp h).1
    have fA := fewest_A (I := bup I 191 B) (J := K) (K := K) (n := n) (al := fun l j => decide (j < n) && canB K l j) hn e27 hal (fun L hL a b ha hb => (vK L (by rw [hL 27 (by decide), bup_ne _ _ (by decide)]) (by rw [hL 28 (by decide), bup_ne _ _ (by decide)]) (by rw [hL 191 (by decide), bup_eq]) a b ha hb).1)
    have fR := fewest_R (J0 := K) (n := n) (al := fun l j => decide (j < n) && canB K l j) hn c2 hal (fun M hM a b ha hb => by
      obtain ⟨v, -, v1, v2⟩ := gen (bup I 191 B) M (bup_ne _ _ (by decide)) (bup_ne _ _ (by decide)) (bup_eq _ _ _) (hM 231 (by decide) (by decide)) (hM 232 (by decide) (by decide)) (hM 228 (by decide) (by decide)) a b ha hb
      have w1 := (vK (bup I 191 B) (bup_ne _ _ (by decide)) (bup_ne _ _ (by decide)) (bup_eq _ _ _) a b ha hb).1
      rw [v1] at w1
      injection w1 with w1
      injection w1 with w1 _
      rw [v2, w1])
    simp (decide := true) only [if_true, ok_bn, ok_eq hB1, ok_rd, e27]
    refine ok_mono fA fun v L q => ?_
    obtain ⟨rfl, q2⟩ := q
    rw [ok_rt]
    refine ok_mono fR fun u M q3 => ?_
    obtain ⟨rfl, q4⟩ := q3
    rw [ok_rt]
    refine ⟨rfl, rl_none [191, 192, 193, 194] [233, 234] [0] hr (fun a ha => ?_) ⟨fun a ha => ?_, fun k hk => ?_⟩ (fun t ht => ?_) ?_ ?_ ?_ rfl⟩
    · have n0 : a ≠ 191 := fun e => by subst e; cases ha
      have n1 : a ≠ 192 := fun e => by subst e; cases ha
      have n2 : a ≠ 193 := fun e => by subst e; cases ha
      have n3 : a ≠ 194 := fun e => by subst e; cases ha
      rw [q2 a n1 n2 n3, bup_ne _ _ n0]
    · have n1 : a ≠ 207 := fun e => by subst e; cases ha
      have n2 : a ≠ 233 := fun e => by subst e; cases ha
      have n3 : a ≠ 234 := fun e => by subst e; cases ha
      rw [q4 a n2 n3, ← hK, bup_ne _ _ n1]
    · have n1 : k ≠ 0 := fun e => by subst e; cases hk
      rw [q4 207 (by decide) (by decide), ← hK, bup_eq, upd_ne _ _ n1]
    · have tb : ∀ t, t ∈ tabL → t < 191 := by decide
      have := tb t (memN_iff.mp ht)
      rw [q2 t (by omega) (by omega) (by omega), bup_ne _ _ (by omega)]; exact ⟨rfl, rfl⟩
    · rw [q2 0 (by decide) (by decide) (by decide), bup_ne _ _ (by decide)]
    · rw [q2 0 (by decide) (by decide) (by decide), bup_ne _ _ (by decide)]
    · rw [q2 0 (by decide) (by decide) (by decide), bup_ne _ _ (by decide)]
  · rcases rng (v := x) 0 9 (by decide) (by decide) with ⟨a, -, ha, rfl⟩ | out
    · have qs := rng_in (a := 0) (b := 9) (k := a) (by decide) (Nat.zero_le a) ha
      have st : F_R_isStreet (nn a) = rt 1 := st_in qs.1 qs.2
      have wA : F_A_within (nn a) 0 9 = rt 1 := wi_in qs.1 qs.2
      rcases rng (v := y) 0 9 (by decide) (by decide) with ⟨b, -, hb, rfl⟩ | out
      · have qs := rng_in (a := 0) (b := 9) (k := b) (by decide) (Nat.zero_le b) hb
        have st2 : F_R_isStreet (nn b) = rt 1 := st_in qs.1 qs.2
        have wA2 : F_A_within (nn b) 0 9 = rt 1 := wi_in qs.1 qs.2
        obtain ⟨u, v, q1, q2, q3⟩ := way_AR (I := bup I 191 B) (J := K) (x := a) (y := b) (by omega) (by omega) (fun s hs => by rw [bup_eq]; exact hB2 s hs) (fun s hs => by rw [bup_eq]; exact hB3 s hs)
        rcases q3 with ⟨rfl, m, hm, rfl⟩ | ⟨rfl, rfl⟩
        · have n1 : ¬ nn m = 100000000 := nn_ne (k := 100000000) (by omega) (by decide) (by omega)
          simp (decide := true) only [if_neg x0, ok_bn, wA, wA2, st, st2, ok_rt, ok_ite, if_false, ok_eq hB1, ok_eq q1, ok_eq q2, if_neg n1, true_and]
          exact rmap B
        · simp (decide := true) only [if_neg x0, ok_bn, wA, wA2, st, st2, ok_rt, ok_ite, if_false, if_true, ok_eq hB1, ok_eq q1, ok_eq q2, true_and]
          exact rmap B
      · have st2 : F_R_isStreet y = rt 0 := st_out out
        have wA2 : F_A_within y 0 9 = rt 0 := wi_out out
        simp (decide := true) only [if_neg x0, ok_bn, wA, wA2, st, st2, ok_rt, ok_ite, if_false, if_true, true_and]
        exact told
    · have st : F_R_isStreet x = rt 0 := st_out out
      have wA : F_A_within x 0 9 = rt 0 := wi_out out
      simp (decide := true) only [if_neg x0, ok_bn, wA, st, ok_rt, ok_ite, if_true, true_and]
      exact told
end PH99
