/-! notes -/
section SC11
theorem all_from {β : Type} {body : Int32 → M (Int32 ⊕ β)} {I : MI} {n k0 : Nat} {e0 e1 : β} (c : Nat → Bool) (hn : n < 5000) (h0 : k0 ≤ n) (hs : ∀ k, k0 ≤ k → k < n → body (nn k) I = some (if c k = true then .inl (nn (k + 1)) else .inr e0, I)) (he : body (nn n) I = some (.inr e1, I)) : lp body FU (nn k0) I = some (if (List.range n).all (fun j => decide (j < k0) || c j) = true then e1 else e0, I) := by
  have key : ∀ (m k N : Nat), m + k = n → m < N → k0 ≤ k → (∀ j, k0 ≤ j → j < k → c j = true) → lp body N (nn k) I = some (if (List.range n).all (fun j => decide (j < k0) || c j) = true then e1 else e0, I) := by
    intro m
    induction m with
    | zero =>
      intro k N hk hN hk0 hc
      obtain ⟨N, rfl⟩ : ∃ N', N = N' + 1 := ⟨N - 1, by omega⟩
      have e2 : k = n := by omega
      subst e2
      rw [lp_s, bn_of he, if_pos]
      · rfl
      · refine List.all_eq_true.mpr fun j hj => ?_
        have hj2 := List.mem_range.mp hj
        by_cases q : j < k0
        · simp [q]
        · simp [hc j (by omega) hj2]
    | succ m ih =>
      intro k N hk hN hk0 hc
      obtain ⟨N, rfl⟩ : ∃ N', N = N' + 1 := ⟨N - 1, by omega⟩
      rw [lp_s, bn_of (hs k hk0 (by omega))]
      by_cases h : c k = true
      · rw [if_pos h]
        exact ih (k + 1) N (by omega) (by omega) (by omega) (fun j hj1 hj => by
          by_cases e : j = k
          · subst e; exact h
          · exact hc j hj1 (by omega))
      · rw [if_neg h, if_neg]
        · rfl
        · intro ha
          have := List.all_eq_true.mp ha k (List.mem_range.mpr (by omega))
          have q : ¬ k < k0 := by omega
          simp [q] at this
          exact h this
  exact key (n - k0) k0 FU (by omega) (by rw [FU_eq]; omega) (Nat.le_refl _) (fun j h1 h2 => absurd h2 (by omega))
def shN (a b : Nat) : Nat := (a + 26 - b) % 26
theorem sh_chk : (List.range 26).all (fun a => (List.range 26).all fun b => decide (fmJ (nn a - nn b) 26 = nn (shN a b)) && decide ((nn a - nn b + 26) - (nn a - nn b + 26) / 26 * 26 = nn (shN a b))) = true := by decide +kernel
theorem sh_A {a b : Nat} (ha : a < 26) (hb : b < 26) : fmJ (nn a - nn b) 26 = nn (shN a b) := by
  have h := List.all_eq_true.mp (List.all_eq_true.mp sh_chk a (List.mem_range.mpr ha)) b (List.mem_range.mpr hb)
  exact of_decide_eq_true (and_mp h).1
theorem sh_R {a b : Nat} (ha : a < 26) (hb : b < 26) : (nn a - nn b + 26) - (nn a - nn b + 26) / 26 * 26 = nn (shN a b) := by
  have h := List.all_eq_true.mp (List.all_eq_true.mp sh_chk a (List.mem_range.mpr ha)) b (List.mem_range.mpr hb)
  exact of_decide_eq_true (and_mp h).2
theorem shN_lt (a b : Nat) : shN a b < 26 := Nat.mod_lt _ (by decide)
theorem tab1 {I : MI} {t n k r : Nat} (hw : I t 0 = nn 1) (h3 : I t 3 = nn n) (hs : siz shT (t + 1) = r) (hn : n ≤ r) (hr : r ≤ 100) (hk : k < n) : F_Table_at t (nn k) 0 I = some (I (t + 1) k, I) := by
  have := at_ok (I := I) (t := t) (w := 1) (n := n) (i := k) (k := 0) hw h3 hk (by decide) (by omega) (by omega) (by decide) (by omega)
  rw [show (0 : Int32) = nn 0 from rfl, this, Nat.mul_one]
  rfl
theorem c_notes (x : Int32) : Call (F_A_notes x) (F_R_notes x) := by
  refine call_of fun I J hr => ?_
  obtain ⟨⟨-, -, -, -, -, -, -, -, -, -, k11, k12, -⟩, -, -, -, kc⟩ := id hr
  obtain ⟨tw, -⟩ := con_at kc (t := 35) (w := 1) (r := 12) (by decide)
  obtain ⟨tw2, -⟩ := con_at kc (t := 37) (w := 1) (r := 12) (by decide)
  obtain ⟨n, hn, hI, hJ, hc⟩ := id k11
  obtain ⟨m, hm, hI2, hJ2, hc2⟩ := id k12
  have hI : I 35 3 = nn n := hI
  have hI2 : I 37 3 = nn m := hI2
  have z36 : siz shT (35 + 1) = 12 := by decide +kernel
  have z38 : siz shT (37 + 1) = 12 := by decide +kernel
  have i0 : inR (0 : Int32) 2 = true := rfl
  have i1 : inR (1 : Int32) 2 = true := rfl
  have t0 : (0 : Int32).toNatClampNeg = 0 := rfl
  have t1 : (1 : Int32).toNatClampNeg = 1 := rfl
  have ca : ∀ i, ∃ a, i < n → a < 26 ∧ I 36 i = nn a ∧ J 243 i = nn a := by
    intro i
    by_cases hi : i < n
    · obtain ⟨a, a1, a2, a3⟩ := hc i hi
      exact ⟨a, fun _ => ⟨a1, a2, by rw [Nat.mul_zero, Nat.zero_add] at a3; exact a3⟩⟩
    · exact ⟨0, fun h => absurd h hi⟩
  have cb : ∀ i, ∃ a, i < m → a < 26 ∧ I 38 i = nn a ∧ J 243 (12 + i) = nn a := by
    intro i
    by_cases hi : i < m
    · obtain ⟨a, a1, a2, a3⟩ := hc2 i hi
      exact ⟨a, fun _ => ⟨a1, a2, by rw [Nat.mul_one] at a3; exact a3⟩⟩
    · exact ⟨0, fun h => absurd h hi⟩
  obtain ⟨a, ha⟩ := Classical.axiomOfChoice ca
  obtain ⟨b, hb⟩ := Classical.axiomOfChoice cb
  have K : ∀ {P : Prop} [Decidable P] {u v : Int32}, (if P then u else v) = (if P then u else v) := rfl
  by_cases hnm : n = m
  · subst hnm
    by_cases x0 : x = 0
    · subst x0
      -- shift
      have sh : ∀ k, k < n → F_Riddles_shiftAt (nn k) I = some (nn (shN (a k) (b k)), I) := by
        intro k hk
        unfold F_Riddles_shiftAt
        rw [bn_of (tab1 tw hI z36 hn (by decide) hk), bn_of (tab1 tw2 hI2 z38 hn (by decide) hk), (ha k hk).2.1, (hb k hk).2.1, dvI_ne _ (by decide), sh_A (ha k hk).1 (hb k hk).1]
        rfl
      have bodyR : ∀ k S (J1 : MI), J1 243 = J 243 → k < n → B_R_notes_76 0 (nn n) (nn S) (nn k) J1 = some (if nn (shN (a k) (b k)) = nn S then .inl (nn (k + 1)) else .inr (.inr (-1)), J1) := by
        intro k S J1 h1 hk
        unfold B_R_notes_76 K_R_notes_116
        rw [ite_ap, if_pos ((nn_lt (by omega) (by omega)).mpr hk), if_pos rfl, bn_ld _ _ (inR_nn (by omega) (by omega)), nn_nat (by omega), show (12 : Int32) + nn k = nn (12 + k) from nn_add 12 k, bn_ld _ _ (inR_nn (by omega) (by omega)), nn_nat (by omega), h1, (ha k hk).2.2, (hb k hk).2.2, dvI_ne _ (by decide), sh_R (ha k hk).1 (hb k hk).1, ite_ap]
        by_cases q : nn (shN (a k) (b k)) = nn S
        · rw [if_pos q, if_pos q, if_neg (by decide), nn_s]; rfl
        · rw [if_neg q, if_neg q]; rfl
      have lA : ∀ S k0, k0 ≤ n → lp (B_Riddles_shift_43 (nn n) (nn S)) FU (nn k0) I = some (if (List.range n).all (fun j => decide (j < k0) || decide (nn (shN (a j) (b j)) = nn S)) = true then nn S else -1, I) := by
        intro S k0 hk0
        refine all_from _ (by omega) hk0 (fun k h1 hk => ?_) ?_
        · unfold B_Riddles_shift_43
          rw [ite_ap, if_pos ((nn_lt (by omega) (by omega)).mpr hk), bn_of (sh k hk), ite_ap, nn_s]
          by_cases q : nn (shN (a k) (b k)) = nn S
          · rw [if_pos q, decide_eq_true q]; rfl
          · rw [if_neg q, decide_eq_false q]; rfl
        · unfold B_Riddles_shift_43
          rw [ite_ap, if_neg (by rw [nn_lt (by omega) (by omega)]; omega)]
          rfl
      have lR : ∀ S (J1 : MI), J1 243 = J 243 → lp (B_R_notes_76 0 (nn n) (nn S)) FU (nn 0) J1 = some (if (List.range n).all (fun j => decide (j < 0) || decide (nn (shN (a j) (b j)) = nn S)) = true then .inl () else .inr (-1), J1) := by
        intro S J1 h1
        refine all_from _ (by omega) (Nat.zero_le n) (fun k _ hk => ?_) ?_
        · rw [bodyR k S J1 h1 hk]
          by_cases q : nn (shN (a k) (b k)) = nn S
          · rw [if_pos q, if_pos (decide_eq_true q)]
          · rw [if_neg q, if_neg (by simp [q])]
        · unfold B_R_notes_76
          rw [ite_ap, if_neg (by rw [nn_lt (by omega) (by omega)]; omega)]
          rfl
      have iR : F_R_isIn 0 0 1 = rt 1 := ri_in (by decide) (by decide)
      have fin : ∀ S, (∀ j, j < 1 → j < n → nn (shN (a j) (b j)) = nn S) → (List.range n).all (fun j => decide (j < 1) || decide (nn (shN (a j) (b j)) = nn S)) = (List.range n).all (fun j => decide (j < 0) || decide (nn (shN (a j) (b j)) = nn S)) := by
        intro S hS
        refine range_all fun j hj => ?_
        by_cases q : j < 1
        · rw [decide_eq_true q, decide_eq_true (hS j q hj)]; simp
        · rw [decide_eq_false q, decide_eq_false (show ¬ j < 0 by omega)]
      have go : ∀ S, (∀ j, j < 1 → j < n → nn (shN (a j) (b j)) = nn S) → 1 ≤ n → Ok (K_Riddles_shift_43 (nn n) (nn S) 1) I fun v I1 => Ok (K_R_notes_76 0 (nn n) (nn S) 0) (bup J 207 (upd (J 207) 0 0)) fun u J1 => u = v ∧ Rl I1 J1 := by
        intro S hS h1
        unfold K_Riddles_shift_43 K_R_notes_76 K_R_notes_153
        rw [show (1 : Int32) = nn 1 from rfl, ok_eq (lA S 1 h1), ok_bn, show (0 : Int32) = nn 0 from rfl]
        have e := lR S (bup J 207 (upd (J 207) 0 0)) rfl
        rw [fin S hS]
        by_cases q : (List.range n).all (fun j => decide (j < 0) || decide (nn (shN (a j) (b j)) = nn S)) = true
        · rw [if_pos q] at e ⊢
          rw [show nn 0 = (0 : Int32) from rfl] at *
          rw [ok_eq e]
          simp only [ok_ite, if_true, ok_rt, true_and]
          exact rl_told hr
        · rw [if_neg q] at e ⊢
          rw [show nn 0 = (0 : Int32) from rfl] at *
          rw [ok_eq e]
          simp only [ok_rt, true_and]
          exact rl_told hr
      unfold F_A_notes F_R_notes F_Riddles_shift
      by_cases hz : n = 0
      · subst hz
        have e0 : nn 0 = 0 := rfl
        have eA : K_Riddles_shift_43 0 0 1 I = some (0, I) := by
          unfold K_Riddles_shift_43
          rw [FU5, lp_s]
          rfl
        have eR : K_R_notes_76 0 0 0 0 (bup J 207 (upd (J 207) 0 0)) = some (0, bup J 207 (upd (J 207) 0 0)) := by
          unfold K_R_notes_76
          have e := lR 0 (bup J 207 (upd (J 207) 0 0)) rfl
          rw [show nn 0 = (0 : Int32) from rfl] at e
          rw [bn_of e]
          rfl
        simp (decide := true) only [ok_bn, ok_wr, ok_rd, ok_rt, ok_ite, ok_ld, iR, hI, hI2, hJ, hJ2, i0, i1, t0, t1, e0, ok_eq eA, ok_eq eR, bup_eq, bup_ne, if_true, if_false, true_and]
        exact rl_told hr
      · have e0 : ¬ nn n = 0 := nn_ne (k := 0) (by omega) (by decide) hz
        have s0 : F_Riddles_shiftAt 0 I = some (nn (shN (a 0) (b 0)), I) := sh 0 (by omega)
        have i24 : inR (0 : Int32) 24 = true := rfl
        have i12 : inR (12 : Int32) 24 = true := rfl
        have t12 : (12 : Int32).toNatClampNeg = 12 := rfl
        have l0 : J 243 0 = nn (a 0) := (ha 0 (by omega)).2.2
        have l12 : J 243 12 = nn (b 0) := (hb 0 (by omega)).2.2
        have d26 : ∀ {β : Type} (k : M β), dvI 26 k = k := fun k => dvI_ne k (by decide)
        have sr := sh_R (ha 0 (by omega)).1 (hb 0 (by omega)).1
        simp (decide := true) only [ok_bn, ok_wr, ok_rd, ok_rt, ok_ite, ok_ld, iR, hI, hI2, hJ, hJ2, i0, i1, t0, t1, i24, i12, t12, l0, l12, d26, sr, e0, ok_eq s0, bup_eq, bup_ne, if_true, if_false, true_and]
        have g := go (shN (a 0) (b 0)) (fun j h1 h2 => by rw [show j = 0 by omega]) (by omega)
        exact g
    · by_cases x1 : x = 1
      · subst x1
        have iR : F_R_isIn 1 0 1 = rt 1 := ri_in (by decide) (by decide)
        have lA : K_Riddles_mirrored_29 (nn n) 0 I = some (if (List.range n).all (fun j => decide (j < 0) || decide (nn (a j) = nn (b (n - 1 - j)))) = true then 1 else 0, I) := by
          unfold K_Riddles_mirrored_29
          refine all_from (k0 := 0) _ (by omega) (Nat.zero_le n) (fun k _ hk => ?_) ?_
          · unfold B_Riddles_mirrored_29
            rw [ite_ap, if_pos ((nn_lt (by omega) (by omega)).mpr hk), bn_of (tab1 tw hI z36 hn (by decide) hk), show (1 : Int32) = nn 1 from rfl, nn_sub (by omega), nn_sub (by omega), bn_of (tab1 tw2 hI2 z38 hn (by decide) (show n - 1 - k < n by omega)), (ha k hk).2.1, (hb (n - 1 - k) (by omega)).2.1, ite_ap, nn_add]
            by_cases q : nn (a k) = nn (b (n - 1 - k))
            · rw [if_pos q, if_pos (decide_eq_true q)]; rfl
            · rw [if_neg q, if_neg (by simp [q])]; rfl
          · unfold B_Riddles_mirrored_29
            rw [ite_ap, if_neg (by rw [nn_lt (by omega) (by omega)]; omega)]
            rfl
        have lR : ∀ S (J1 : MI), J1 243 = J 243 → lp (B_R_notes_76 1 (nn n) S) FU 0 J1 = some (if (List.range n).all (fun j => decide (j < 0) || decide (nn (a j) = nn (b (n - 1 - j)))) = true then .inl () else .inr 0, J1) := by
          intro S J1 h1
          refine all_from (k0 := 0) _ (by omega) (Nat.zero_le n) (fun k _ hk => ?_) ?_
          · unfold B_R_notes_76 K_R_notes_116
            rw [ite_ap, if_pos ((nn_lt (by omega) (by omega)).mpr hk), if_neg one_ne, if_pos rfl, bn_ld _ _ (inR_nn (by omega) (by omega)), nn_nat (by omega), show (12 : Int32) + nn n - 1 - nn k = nn (12 + (n - 1 - k)) by rw [show (12 : Int32) = nn 12 from rfl, nn_add, show (1 : Int32) = nn 1 from rfl, nn_sub (by omega), nn_sub (by omega)]; congr 1; omega, bn_ld _ _ (inR_nn (by omega) (by omega)), nn_nat (by omega), h1, (ha k hk).2.2, (hb (n - 1 - k) (by omega)).2.2, ite_ap, nn_s]
            by_cases q : nn (a k) = nn (b (n - 1 - k))
            · rw [if_pos q, if_pos (decide_eq_true q)]; rfl
            · rw [if_neg q, if_neg (by simp [q])]; rfl
          · unfold B_R_notes_76
            rw [ite_ap, if_neg (by rw [nn_lt (by omega) (by omega)]; omega)]
            rfl
        have go : ∀ S, Ok (K_R_notes_76 1 (nn n) S 0) (bup J 207 (upd (J 207) 0 0)) fun u J1 => u = (if (List.range n).all (fun j => decide (j < 0) || decide (nn (a j) = nn (b (n - 1 - j)))) = true then 1 else 0) ∧ Rl I J1 := by
          intro S
          unfold K_R_notes_76 K_R_notes_153
          have e := lR S (bup J 207 (upd (J 207) 0 0)) rfl
          rw [ok_bn]
          by_cases q : (List.range n).all (fun j => decide (j < 0) || decide (nn (a j) = nn (b (n - 1 - j)))) = true
          · rw [if_pos q] at e ⊢
            rw [ok_eq e]
            simp (decide := true) only [ok_ite, if_false, ok_rt, true_and]
            exact rl_told hr
          · rw [if_neg q] at e ⊢
            rw [ok_eq e]
            simp only [ok_rt, true_and]
            exact rl_told hr
        have fA : Ok (F_A_notes 1) I fun v I1 => v = (if (List.range n).all (fun j => decide (j < 0) || decide (nn (a j) = nn (b (n - 1 - j)))) = true then 1 else 0) ∧ I1 = I := by
          unfold F_A_notes F_Riddles_mirrored
          generalize (List.range n).all (fun j => decide (j < 0) || decide (nn (a j) = nn (b (n - 1 - j)))) = B at lA
          cases B <;> simp (decide := true) only [ok_bn, ok_rd, ok_rt, ok_ite, hI, hI2, ok_eq lA, if_true, if_false, true_and]
        obtain ⟨v, I1, f1, f2, f3⟩ := fA
        subst f3
        rw [ok_eq f1, f2]
        unfold F_R_notes
        by_cases hz : n = 0
        · have e0 : nn n = 0 := by rw [hz]; rfl
          have g := go 0
          simp (decide := true) only [ok_bn, ok_wr, ok_rd, ok_rt, ok_ite, ok_ld, iR, hJ, hJ2, i0, i1, t0, t1, bup_eq, bup_ne, if_true, if_false, true_and, if_pos e0]
          exact g
        · have e0 : ¬ nn n = 0 := nn_ne (k := 0) (by omega) (by decide) hz
          have i24 : inR (0 : Int32) 24 = true := rfl
          have i12 : inR (12 : Int32) 24 = true := rfl
          have d26 : ∀ {β : Type} (k : M β), dvI 26 k = k := fun k => dvI_ne k (by decide)
          simp (decide := true) only [ok_bn, ok_wr, ok_rd, ok_rt, ok_ite, ok_ld, iR, hJ, hJ2, i0, i1, t0, t1, i24, i12, d26, bup_eq, bup_ne, if_true, if_false, true_and, if_neg e0]
          exact go _
      · have iR : F_R_isIn x 0 1 = rt 0 := by
          refine ri_out ?_
          rcases rng (v := x) 0 1 (by decide) (by decide) with ⟨k, -, k2, rfl⟩ | out
          · exfalso
            match k, k2 with
            | 0, _ => exact x0 rfl
            | 1, _ => exact x1 rfl
            | k + 2, h => omega
          · exact out
        unfold F_A_notes F_R_notes
        simp (decide := true) only [ok_bn, ok_wr, ok_rd, ok_rt, ok_ite, ok_ld, if_neg x0, if_neg x1, iR, i0, t0, bup_eq, bup_ne, if_true, if_false, true_and]
        exact rl_told hr
  · have ne : ¬ nn n = nn m := nn_ne (by omega) (by omega) hnm
    unfold F_A_notes F_R_notes F_Riddles_shift F_Riddles_mirrored
    by_cases x0 : x = 0
    · subst x0
      have iR : F_R_isIn 0 0 1 = rt 1 := ri_in (by decide) (by decide)
      simp (decide := true) only [ok_bn, ok_wr, ok_rd, ok_rt, ok_ite, ok_ld, iR, hI, hI2, hJ, hJ2, i0, i1, t0, t1, if_neg ne, bup_eq, bup_ne, if_true, if_false, true_and]
      exact rl_told hr
    · by_cases x1 : x = 1
      · subst x1
        have iR : F_R_isIn 1 0 1 = rt 1 := ri_in (by decide) (by decide)
        simp (decide := true) only [ok_bn, ok_wr, ok_rd, ok_rt, ok_ite, ok_ld, ok_gdZ, iR, hI, hI2, hJ, hJ2, i0, i1, t0, t1, if_neg ne, bup_eq, bup_ne, if_true, if_false, true_and]
        exact rl_told hr
      · have iR : F_R_isIn x 0 1 = rt 0 := by
          refine ri_out ?_
          rcases rng (v := x) 0 1 (by decide) (by decide) with ⟨k, -, k2, rfl⟩ | out
          · exfalso
            match k, k2 with
            | 0, _ => exact x0 rfl
            | 1, _ => exact x1 rfl
            | k + 2, h => omega
          · exact out
        simp (decide := true) only [ok_bn, ok_wr, ok_rd, ok_rt, ok_ite, ok_ld, if_neg x0, if_neg x1, iR, i0, t0, bup_eq, bup_ne, if_true, if_false, true_and]
        exact rl_told hr
end SC11
