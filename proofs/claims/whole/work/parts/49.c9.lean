/-! speakers, swings -/
section SC9
/-- how many, number by number -/
def cntF (c : Nat → Bool) : Nat → Int32
  | 0 => 0
  | k + 1 => if c k = true then cntF c k + 1 else cntF c k
theorem cntF_congr {c d : Nat → Bool} {n : Nat} (h : ∀ k, k < n → c k = d k) : cntF c n = cntF d n := by
  induction n with
  | zero => rfl
  | succ n ih =>
    unfold cntF
    rw [ih (fun k hk => h k (by omega)), h n (by omega)]
theorem cnt_lp {body : Int32 × Int32 → M ((Int32 × Int32) ⊕ Int32)} {I : MI} {n : Nat} (c : Nat → Bool) (hn : n < 5000) (hs : ∀ k x, k < n → body (x, nn k) I = some (.inl (if c k = true then x + 1 else x, nn (k + 1)), I)) (he : ∀ x, body (x, nn n) I = some (.inr x, I)) : lp body FU (0, 0) I = some (cntF c n, I) :=
  lp_val (body := body) (I := I) (e := cntF c n) (fun k => (cntF c k, nn k)) n (fun k hk => by
    rw [hs k _ hk]
    rfl) (he _) FU (by rw [FU_eq]; exact hn)
/-- a sum, number by number -/
def sumF (v : Nat → Int32) : Nat → Int32
  | 0 => 0
  | k + 1 => sumF v k + v k
theorem sumF_congr {c d : Nat → Int32} {n : Nat} (h : ∀ k, k < n → c k = d k) : sumF c n = sumF d n := by
  induction n with
  | zero => rfl
  | succ n ih =>
    unfold sumF
    rw [ih (fun k hk => h k (by omega)), h n (by omega)]
theorem sum_lp {body : Int32 × Int32 → M ((Int32 × Int32) ⊕ Int32)} {I : MI} {n : Nat} (v : Nat → Int32) (hn : n < 5000) (hs : ∀ k x, k < n → body (x, nn k) I = some (.inl (x + v k, nn (k + 1)), I)) (he : ∀ x, body (x, nn n) I = some (.inr x, I)) : lp body FU (0, 0) I = some (sumF v n, I) :=
  lp_val (body := body) (I := I) (e := sumF v n) (fun k => (sumF v k, nn k)) n (fun k hk => by
    rw [hs k _ hk]
    rfl) (he _) FU (by rw [FU_eq]; exact hn)
/-- whether all are so -/
theorem all_lp {body : Int32 → M (Int32 ⊕ Int32)} {I : MI} {n : Nat} (c : Nat → Bool) (hn : n < 5000) (hs : ∀ k, k < n → body (nn k) I = some (if c k = true then .inl (nn (k + 1)) else .inr 0, I)) (he : body (nn n) I = some (.inr 1, I)) : lp body FU 0 I = some (if (List.range n).all c = true then 1 else 0, I) := by
  have key : ∀ (m k N : Nat), m + k = n → m < N → (∀ j, j < k → c j = true) → lp body N (nn k) I = some (if (List.range n).all c = true then 1 else 0, I) := by
    intro m
    induction m with
    | zero =>
      intro k N hk hN hc
      obtain ⟨N, rfl⟩ : ∃ N', N = N' + 1 := ⟨N - 1, by omega⟩
      have e2 : k = n := by omega
      subst e2
      rw [lp_s, bn_of he, if_pos (List.all_eq_true.mpr fun j hj => hc j (List.mem_range.mp hj))]
      rfl
    | succ m ih =>
      intro k N hk hN hc
      obtain ⟨N, rfl⟩ : ∃ N', N = N' + 1 := ⟨N - 1, by omega⟩
      rw [lp_s, bn_of (hs k (by omega))]
      by_cases h : c k = true
      · rw [if_pos h]
        exact ih (k + 1) N (by omega) (by omega) (fun j hj => by
          by_cases e : j = k
          · subst e; exact h
          · exact hc j (by omega))
      · rw [if_neg h, if_neg]
        · rfl
        · intro ha
          exact h (List.all_eq_true.mp ha k (List.mem_range.mpr (by omega)))
  exact key n 0 FU (by omega) (by rw [FU_eq]; exact hn) (fun j hj => absurd hj (by omega))
theorem range_all {c d : Nat → Bool} {n : Nat} (h : ∀ k, k < n → c k = d k) : (List.range n).all c = (List.range n).all d := by
  induction n with
  | zero => rfl
  | succ n ih =>
    rw [List.range_succ, List.all_append, List.all_append, ih (fun k hk => h k (by omega))]
    simp [h n (by omega)]
/-! loops without ints of their own -/
def lpP {σ β : Type} (b : σ → σ ⊕ β) : Nat → σ → Option β
  | 0, _ => none
  | n + 1, x => match b x with
    | .inl y => lpP b n y
    | .inr e => some e
theorem lp_pure {σ β : Type} {body : σ → M (σ ⊕ β)} {b : σ → σ ⊕ β} (h : ∀ x, body x = rt (b x)) : ∀ (n : Nat) (x : σ) (e : β), lpP b n x = some e → lp body n x = rt e := by
  intro n
  induction n with
  | zero => intro x e h; cases h
  | succ n ih =>
    intro x e he
    rw [lp_s, h x, bn_rt]
    unfold lpP at he
    cases hb : b x with
    | inl y => rw [hb] at he; exact ih y e he
    | inr y => rw [hb] at he; cases he; rfl
def onB (y : Int32 × Int32) : (Int32 × Int32) ⊕ Int32 := if y.2 = 0 then .inr y.1 else .inl (y.1 + 1, y.2 &&& (y.2 - 1))
theorem on_body (y : Int32 × Int32) : B_R_onesOf_4 y = rt (onB y) := by
  unfold B_R_onesOf_4 onB
  by_cases h : y.2 = 0
  · rw [if_pos h, if_pos h]
  · rw [if_neg h, if_neg h]
def bcE (x : Int32) : Int32 := match F_Integer_bitCount x (fun _ _ => 0) with
  | some (v, _) => v
  | none => 0
theorem bc_A (x : Int32) : F_Integer_bitCount x = rt (bcE x) := rfl
def pcN (m : Nat) : Nat := ((List.range 10).filter (fun b => m.testBit b)).length
theorem bc_all : (List.range 1024).all (fun m => decide (bcE (nn m) = nn (pcN m))) = true := by decide +kernel
theorem on_all : (List.range 1024).all (fun m => decide (lpP onB 5000 (0, nn m) = some (nn (pcN m)))) = true := by decide +kernel
theorem bc_nn {m : Nat} (h : m < 1024) : F_Integer_bitCount (nn m) = rt (nn (pcN m)) := by
  rw [bc_A, of_decide_eq_true (List.all_eq_true.mp bc_all m (List.mem_range.mpr h))]
theorem on_nn {m : Nat} (h : m < 1024) : F_R_onesOf (nn m) = rt (nn (pcN m)) := by
  unfold F_R_onesOf K_R_onesOf_4
  exact lp_pure on_body _ _ _ (of_decide_eq_true (List.all_eq_true.mp on_all m (List.mem_range.mpr h)))
theorem gr_R (a b : Int32) : F_R_greater a b = rt (if b < a then a else b) := by
  unfold F_R_greater
  by_cases h : b < a
  · rw [if_pos h, if_pos h]
  · rw [if_neg h, if_neg h]
theorem le_R (a b : Int32) : F_R_lesser a b = rt (if a < b then a else b) := by
  unfold F_R_lesser
  by_cases h : a < b
  · rw [if_pos h, if_pos h]
  · rw [if_neg h, if_neg h]
theorem max_comm {a b : Int32} : (if a < b then b else a) = if b < a then a else b := by
  by_cases h : a < b
  · by_cases h2 : b < a
    · rw [Int32.lt_iff_toInt_lt] at h h2; omega
    · rw [if_pos h, if_neg h2]
  · by_cases h2 : b < a
    · rw [if_neg h, if_pos h2]
    · rw [if_neg h, if_neg h2]
      apply Int32.toInt_inj.mp
      rw [Int32.lt_iff_toInt_lt] at h h2
      omega
theorem min_comm {a b : Int32} : (if a < b then a else b) = if b < a then b else a := by
  by_cases h : a < b
  · by_cases h2 : b < a
    · rw [Int32.lt_iff_toInt_lt] at h h2; omega
    · rw [if_pos h, if_neg h2]
  · by_cases h2 : b < a
    · rw [if_neg h, if_pos h2]
    · rw [if_neg h, if_neg h2]
      apply Int32.toInt_inj.mp
      rw [Int32.lt_iff_toInt_lt] at h h2
      omega
/-! votes -/
def wgt (v : Nat → Int32) (s : Nat) (n : Nat) : Int32 := sumF (fun k => if s.testBit k = true then v k else 0) n
def swC (v : Nat → Int32) (n i : Nat) (q : Int32) (s : Nat) : Bool := !s.testBit i && (decide (wgt v s n < q) && !decide (wgt v s n + v i < q))
theorem weight_A {I : MI} {n s : Nat} (hw : I 33 0 = nn 1) (hn : n ≤ 6) (h3 : I 33 3 = nn n) (hs : s < 64) : F_Riddles_weightOf (nn s) I = some (wgt (I 34) s n, I) := by
  unfold F_Riddles_weightOf K_Riddles_weightOf_4 wgt
  refine sum_lp _ (by omega) (fun k x hk => ?_) (fun x => ?_)
  · unfold B_Riddles_weightOf_4
    have a0 : F_Table_at 33 (nn k) 0 I = some (I 34 k, I) := by
      have := at_ok (I := I) (t := 33) (w := 1) (n := n) (i := k) (k := 0) hw h3 hk (by decide) (by rw [show siz shT (33 + 1) = 6 from by decide +kernel]; omega) (by omega) (by decide) (by omega)
      rw [show (0 : Int32) = nn 0 from rfl, this, Nat.mul_one]
      rfl
    rw [bn_rd, h3, ite_ap, if_pos ((nn_lt (by omega) (by omega)).mpr hk), bn_of a0, bit_nn (by omega) (by omega), nn_s]
    by_cases h : s.testBit k = true
    · simp only [if_pos h, Int32.one_mul]; rfl
    · simp only [if_neg h, Int32.zero_mul]; rfl
  · unfold B_Riddles_weightOf_4
    rw [bn_rd, h3, ite_ap, if_neg (by rw [nn_lt (by omega) (by omega)]; omega)]
    rfl
theorem weight_R {J : MI} {v : Nat → Int32} {n i s : Nat} {q a b : Int32} (hn : n ≤ 6) (h3 : J 207 57 = nn n) (hv : ∀ k, k < n → J 241 k = v k) (hs : s < 64) : lp (B_R_swingsOf_35 a q b (nn s)) FU (0, 0) J = some (wgt v s n, J) := by
  unfold wgt
  refine sum_lp _ (by omega) (fun k x hk => ?_) (fun x => ?_)
  · unfold B_R_swingsOf_35
    rw [bn_rd, h3, ite_ap, if_pos ((nn_lt (by omega) (by omega)).mpr hk), has_nn (by omega) (by omega), bn_rt, ite_ap, nn_s]
    by_cases h : s.testBit k = true
    · simp only [if_pos h]
      rw [if_neg one_ne, bn_ld _ _ (inR_nn (by omega) (by omega)), nn_nat (by omega), hv k hk]
      rfl
    · simp only [if_neg h]
      rw [if_pos trivial, Int32.add_zero]
      rfl
  · unfold B_R_swingsOf_35
    rw [bn_rd, h3, ite_ap, if_neg (by rw [nn_lt (by omega) (by omega)]; omega)]
    rfl
theorem pow_le {n : Nat} (hn : n ≤ 6) : 2 ^ n ≤ 64 := Nat.pow_le_pow_right (n := 2) (by decide) hn
theorem swing_A {I : MI} {n i : Nat} {q : Int32} (hw : I 33 0 = nn 1) (hn : n ≤ 6) (h3 : I 33 3 = nn n) (hi : i < n) : F_Riddles_swingsOf (nn i) q I = some (cntF (swC (I 34) n i q) (2 ^ n), I) := by
  have p := pow_le hn
  unfold F_Riddles_swingsOf K_Riddles_swingsOf_31
  have a0 : F_Table_at 33 (nn i) 0 I = some (I 34 i, I) := by
    have := at_ok (I := I) (t := 33) (w := 1) (n := n) (i := i) (k := 0) hw h3 hi (by decide) (by rw [show siz shT (33 + 1) = 6 from by decide +kernel]; omega) (by omega) (by decide) (by omega)
    rw [show (0 : Int32) = nn 0 from rfl, this, Nat.mul_one]
    rfl
  rw [bn_rd, h3, bn_of a0]
  refine cnt_lp _ (by omega) (fun s x hs => ?_) (fun x => ?_)
  · unfold B_Riddles_swingsOf_31
    rw [shl_nn (by omega), ite_ap, if_pos ((nn_lt (by omega) (by omega)).mpr hs), bit_nn (by omega) (by omega), ite_ap, nn_s]
    unfold swC
    by_cases h : s.testBit i = true
    · rw [if_pos h, if_neg one_ne, h]; rfl
    · rw [if_neg h, if_pos rfl, bn_of (weight_A hw hn h3 (by omega)), ite_ap]
      have hf : s.testBit i = false := by simpa using h
      rw [hf]
      by_cases c1 : wgt (I 34) s n < q
      · rw [if_pos c1, decide_eq_true c1, ite_ap]
        by_cases c2 : wgt (I 34) s n + I 34 i < q
        · rw [if_pos c2, decide_eq_true c2, Int32.add_zero]; rfl
        · rw [if_neg c2, decide_eq_false c2]; rfl
      · rw [if_neg c1, decide_eq_false c1, Int32.add_zero]; rfl
  · unfold B_Riddles_swingsOf_31
    rw [shl_nn (by omega), ite_ap, if_neg (by rw [nn_lt (by omega) (by omega)]; omega)]
    rfl
theorem swing_R {J : MI} {v : Nat → Int32} {n i : Nat} {q : Int32} (hn : n ≤ 6) (h3 : J 207 57 = nn n) (hv : ∀ k, k < n → J 241 k = v k) (hi : i < n) : F_R_swingsOf (nn i) q J = some (cntF (swC v n i q) (2 ^ n), J) := by
  have p := pow_le hn
  unfold F_R_swingsOf K_R_swingsOf_5
  refine cnt_lp _ (by omega) (fun s x hs => ?_) (fun x => ?_)
  · unfold B_R_swingsOf_5 K_R_swingsOf_35 K_R_swingsOf_73
    rw [bn_rd, h3, shl_nn (by omega), ite_ap, if_pos ((nn_lt (by omega) (by omega)).mpr hs), has_nn (by omega) (by omega), bn_rt, ite_ap, nn_s]
    unfold swC
    by_cases h : s.testBit i = true
    · rw [if_pos h, if_neg one_ne, h]; rfl
    · rw [if_neg h, if_pos rfl, bn_of (weight_R (v := v) (i := i) hn h3 hv (by omega)), ite_ap]
      have hf : s.testBit i = false := by simpa using h
      rw [hf]
      by_cases c1 : wgt v s n < q
      · rw [if_pos c1, decide_eq_true c1, bn_ld _ _ (inR_nn (by omega) (by omega)), nn_nat (by omega), hv i hi, ite_ap]
        by_cases c2 : wgt v s n + v i < q
        · rw [if_pos c2, decide_eq_true c2]; rfl
        · rw [if_neg c2, decide_eq_false c2]; rfl
      · rw [if_neg c1, decide_eq_false c1]; rfl
  · unfold B_R_swingsOf_5
    rw [bn_rd, h3, shl_nn (by omega), ite_ap, if_neg (by rw [nn_lt (by omega) (by omega)]; omega)]
    rfl
theorem never_A {I : MI} {n : Nat} {q : Int32} (hw : I 33 0 = nn 1) (hn : n ≤ 6) (h3 : I 33 3 = nn n) : F_Riddles_neverSwing q I = some (cntF (fun i => decide (cntF (swC (I 34) n i q) (2 ^ n) = 0)) n, I) := by
  unfold F_Riddles_neverSwing K_Riddles_neverSwing_4
  refine cnt_lp _ (by omega) (fun k x hk => ?_) (fun x => ?_)
  · unfold B_Riddles_neverSwing_4
    rw [bn_rd, h3, ite_ap, if_pos ((nn_lt (by omega) (by omega)).mpr hk), bn_of (swing_A hw hn h3 hk), ite_ap, nn_s]
    by_cases h : cntF (swC (I 34) n k q) (2 ^ n) = 0
    · rw [if_pos h, decide_eq_true h]; rfl
    · rw [if_neg h, decide_eq_false h, Int32.add_zero]; rfl
  · unfold B_Riddles_neverSwing_4
    rw [bn_rd, h3, ite_ap, if_neg (by rw [nn_lt (by omega) (by omega)]; omega)]
    rfl
theorem never_R {J : MI} {v : Nat → Int32} {n : Nat} {q : Int32} (hn : n ≤ 6) (h3 : J 207 57 = nn n) (hv : ∀ k, k < n → J 241 k = v k) : K_R_swings_51 q 0 0 J = some (cntF (fun i => decide (cntF (swC v n i q) (2 ^ n) = 0)) n, J) := by
  unfold K_R_swings_51
  refine cnt_lp _ (by omega) (fun k x hk => ?_) (fun x => ?_)
  · unfold B_R_swings_51
    rw [bn_rd, h3, ite_ap, if_pos ((nn_lt (by omega) (by omega)).mpr hk), bn_of (swing_R hn h3 hv hk), ite_ap, nn_s]
    by_cases h : cntF (swC v n k q) (2 ^ n) = 0
    · rw [if_pos h, decide_eq_true h]; rfl
    · rw [if_neg h, decide_eq_false h]; rfl
  · unfold B_R_swings_51
    rw [bn_rd, h3, ite_ap, if_neg (by rw [nn_lt (by omega) (by omega)]; omega)]
    rfl
theorem c_swings (x q : Int32) : Call (F_A_swings x q) (F_R_swings x q) := by
  refine call_of fun I J hr => ?_
  obtain ⟨⟨-, -, -, -, -, -, -, -, -, k10, -⟩, -, -, -, kc⟩ := id hr
  obtain ⟨n, hn, hI, hJ, hc⟩ := k10
  obtain ⟨tw, tr⟩ := con_at kc (t := 33) (w := 1) (r := 6) (by decide)
  have hI : I 33 3 = nn n := hI
  have hv : ∀ k, k < n → J 241 k = I 34 k := fun k hk => by
    obtain ⟨m, -, a, b⟩ := hc k hk
    exact b.trans a.symm
  have jj : ∀ k, k < n → (bup J 207 (upd (J 207) 0 0)) 241 k = I 34 k := hv
  have nR := never_R (J := bup J 207 (upd (J 207) 0 0)) (q := q) hn (by exact hJ) jj
  have nA := never_A (q := q) tw hn hI
  unfold F_A_swings F_R_swings
  have hn1 : ∀ {y : Int32}, y.toInt = -1 → y = -1 := fun h => Int32.toInt_inj.mp (h.trans rfl)
  have em1 : (nn n - 1).toInt = (n : Int) - 1 := by
    cases n with
    | zero => rfl
    | succ l =>
      have : nn (l + 1) - 1 = nn l := nn_sub (j := l + 1) (k := 1) (by omega)
      rw [this, nn_toInt (by omega)]
      omega
  have e1 : (-1 : Int32).toInt = -1 := rfl
  have e0 : (0 : Int32).toInt = 0 := rfl
  by_cases h1 : x = -1
  · have iR : F_R_isIn x (-1) (nn n - 1) = rt 1 := by
      refine ri_in ?_ ?_
      · rw [h1]; decide
      · rw [h1, Int32.lt_iff_toInt_lt, em1, e1]; omega
    rcases rng (v := q) 1 180 (by decide) (by decide) with ⟨k, a1, a2, rfl⟩ | out
    · have qq := rng_in (a := 1) (b := 180) (by decide) a1 a2
      have wA : F_A_within (nn k) 1 180 = rt 1 := wi_in qq.1 qq.2
      have wR : F_R_isIn (nn k) 1 180 = rt 1 := ri_in qq.1 qq.2
      simp (decide := true) only [ok_bn, ok_wr, ok_rd, ok_rt, ok_ite, if_pos h1, wA, wR, iR, hJ, ok_eq nA, ok_eq nR, bup_eq, upd_ne, if_true, if_false, true_and]
      exact rl_told hr
    · have wA : F_A_within q 1 180 = rt 0 := wi_out out
      have wR : F_R_isIn q 1 180 = rt 0 := ri_out out
      simp (decide := true) only [ok_bn, ok_wr, ok_rd, ok_rt, ok_ite, if_pos h1, wA, wR, iR, hJ, bup_eq, upd_ne, if_true, if_false, true_and]
      exact rl_told hr
  · rcases nlt (x := x) n (by omega) with ⟨i, hi, rfl⟩ | outx
    · have iR : F_R_isIn (nn i) (-1) (nn n - 1) = rt 1 := by
        refine ri_in ?_ ?_
        · rw [Int32.lt_iff_toInt_lt, nn_toInt (by omega), e1]; omega
        · rw [Int32.lt_iff_toInt_lt, em1, nn_toInt (by omega)]; omega
      have iA : F_A_within (nn i) 0 (nn n - 1) = rt 1 := by
        refine wi_in (nn_neg (by omega)) ?_
        rw [Int32.lt_iff_toInt_lt, em1, nn_toInt (by omega)]; omega
      have sA := swing_A (q := q) tw hn hI hi
      have sR := swing_R (J := bup J 207 (upd (J 207) 0 0)) (q := q) hn (by exact hJ) jj hi
      rcases rng (v := q) 1 180 (by decide) (by decide) with ⟨k, a1, a2, rfl⟩ | out
      · have qq := rng_in (a := 1) (b := 180) (by decide) a1 a2
        have wA : F_A_within (nn k) 1 180 = rt 1 := wi_in qq.1 qq.2
        have wR : F_R_isIn (nn k) 1 180 = rt 1 := ri_in qq.1 qq.2
        simp (decide := true) only [ok_bn, ok_wr, ok_rd, ok_rt, ok_ite, if_neg h1, wA, wR, iR, iA, hI, hJ, ok_eq sA, ok_eq sR, bup_eq, upd_ne, if_true, if_false, true_and]
        exact rl_told hr
      · have wA : F_A_within q 1 180 = rt 0 := wi_out out
        have wR : F_R_isIn q 1 180 = rt 0 := ri_out out
        simp (decide := true) only [ok_bn, ok_wr, ok_rd, ok_rt, ok_ite, if_neg h1, wA, wR, iR, iA, hJ, bup_eq, upd_ne, if_true, if_false, true_and]
        exact rl_told hr
    · have iA : F_A_within x 0 (nn n - 1) = rt 0 := wi_out ((dec_lt (by omega)).mpr outx)
      have iR : F_R_isIn x (-1) (nn n - 1) = rt 0 := by
        refine ri_out ?_
        rcases (dec_lt (l := n) (by omega)).mpr outx with h | h
        · refine Or.inl ?_
          rw [Int32.lt_iff_toInt_lt] at h ⊢
          have : x.toInt ≠ -1 := fun e => h1 (hn1 e)
          rw [e1]
          omega
        · exact Or.inr h
      rcases rng (v := q) 1 180 (by decide) (by decide) with ⟨k, a1, a2, rfl⟩ | out
      · have qq := rng_in (a := 1) (b := 180) (by decide) a1 a2
        have wA : F_A_within (nn k) 1 180 = rt 1 := wi_in qq.1 qq.2
        simp (decide := true) only [ok_bn, ok_wr, ok_rd, ok_rt, ok_ite, if_neg h1, wA, iR, iA, hI, hJ, bup_eq, upd_ne, if_true, if_false, true_and]
        exact rl_told hr
      · have wA : F_A_within q 1 180 = rt 0 := wi_out out
        simp (decide := true) only [ok_bn, ok_wr, ok_rd, ok_rt, ok_ite, if_neg h1, wA, iR, iA, hI, hJ, bup_eq, upd_ne, if_true, if_false, true_and]
        exact rl_told hr
end SC9
