/-! least -/
section SC14
def coaC (I : MI) (n h : Nat) : Nat := cntN (fun i => !decide (nn h < I 22 (4 * i + 1)) && !decide (I 22 (4 * i + 2) < nn h)) n
theorem holds_A {I : MI} {n i h : Nat} (hw : I 21 0 = nn 4) (h3 : I 21 3 = nn n) (hn : n ≤ 16) (hi : i < n) : F_Texts_holds 15 (nn i) (nn h) I = some (if (!decide (nn h < I 22 (4 * i + 1)) && !decide (I 22 (4 * i + 2) < nn h)) = true then 1 else 0, I) := by
  have hz : siz shT (21 + 1) = 64 := by decide +kernel
  have a1 : F_Table_at (15 + 6) (nn i) 1 I = some (I 22 (4 * i + 1), I) := by
    have := at_ok (I := I) (t := 21) (w := 4) (n := n) (i := i) (k := 1) hw h3 hi (by decide) (by rw [hz]; omega) (by omega) (by decide) (by omega)
    rw [show (1 : Int32) = nn 1 from rfl, this, Nat.mul_comm i 4]
  have a2 : F_Table_at (15 + 6) (nn i) 2 I = some (I 22 (4 * i + 2), I) := by
    have := at_ok (I := I) (t := 21) (w := 4) (n := n) (i := i) (k := 2) hw h3 hi (by decide) (by rw [hz]; omega) (by omega) (by decide) (by omega)
    rw [show (2 : Int32) = nn 2 from rfl, this, Nat.mul_comm i 4]
  unfold F_Texts_holds
  rw [bn_of a1, ite_ap]
  by_cases p : nn h < I 22 (4 * i + 1)
  · rw [if_pos p, decide_eq_true p]; rfl
  · rw [if_neg p, decide_eq_false p, bn_of a2, ite_ap]
    by_cases p2 : I 22 (4 * i + 2) < nn h
    · rw [if_pos p2, decide_eq_true p2]; rfl
    · rw [if_neg p2, decide_eq_false p2]; rfl
theorem coats_A {I : MI} {n h : Nat} {a b c : Int32} (hw : I 21 0 = nn 4) (h3 : I 21 3 = nn n) (hn : n ≤ 16) : lp (B_Texts_busiest_20 15 a b c (nn h)) FU (0, 0) I = some (nn (coaC I n h), I) := by
  unfold coaC
  rw [← (cntF_N _ n).1]
  refine cnt_lp _ (by omega) (fun k x hk => ?_) (fun x => ?_)
  · unfold B_Texts_busiest_20
    rw [bn_rd, show I (15 + 6) 3 = nn n from h3, ite_ap, if_pos ((nn_lt (by omega) (by omega)).mpr hk), bn_of (holds_A hw h3 hn hk), ite_ap, nn_s, Int32.add_zero]
    generalize (!decide (nn h < I 22 (4 * k + 1)) && !decide (I 22 (4 * k + 2) < nn h)) = B
    cases B <;> rfl
  · unfold B_Texts_busiest_20
    rw [bn_rd, show I (15 + 6) 3 = nn n from h3, ite_ap, if_neg (by rw [nn_lt (by omega) (by omega)]; omega)]
    rfl
theorem coats_R {I J : MI} {n h : Nat} (hn : n ≤ 16) (h3 : J 207 36 = nn n) (hc : ∀ i, i < n → J 226 (4 * i + 1) = I 22 (4 * i + 1) ∧ J 226 (4 * i + 2) = I 22 (4 * i + 2)) : F_R_coatsAt (nn h) J = some (nn (coaC I n h), J) := by
  unfold F_R_coatsAt K_R_coatsAt_4 coaC
  rw [← (cntF_N _ n).1]
  have e4 : (4 : Int32) * nn n = nn (4 * n) := nn_mul 4 n
  refine lp_val (body := B_R_coatsAt_4 (nn h)) (e := cntF _ n) (fun k => (cntF (fun i => !decide (nn h < I 22 (4 * i + 1)) && !decide (I 22 (4 * i + 2) < nn h)) k, nn (4 * k))) n (fun k hk => ?_) ?_ FU (by rw [FU_eq]; omega)
  · unfold B_R_coatsAt_4
    obtain ⟨c1, c2⟩ := hc k hk
    dsimp only
    rw [bn_rd, h3, e4, ite_ap, if_pos ((nn_lt (by omega) (by omega)).mpr (by omega)), show nn (4 * k) + 1 = nn (4 * k + 1) from nn_add _ 1, show nn (4 * k) + 2 = nn (4 * k + 2) from nn_add _ 2, bn_ld _ _ (inR_nn (by omega) (by omega)), nn_nat (by omega), bn_ld _ _ (inR_nn (by omega) (by omega)), nn_nat (by omega), c1, c2, show nn (4 * k) + 4 = nn (4 * (k + 1)) from nn_add _ 4]
    conv => rhs; unfold cntF
    by_cases p : nn h < I 22 (4 * k + 1)
    · rw [ri_out (Or.inl p), bn_rt, ite_ap, if_pos rfl, decide_eq_true p]; rfl
    · by_cases p2 : I 22 (4 * k + 2) < nn h
      · rw [ri_out (Or.inr p2), bn_rt, ite_ap, if_pos rfl, decide_eq_true p2, decide_eq_false p]; rfl
      · rw [ri_in p p2, bn_rt, ite_ap, if_neg one_ne, decide_eq_false p2, decide_eq_false p]; rfl
  · unfold B_R_coatsAt_4
    dsimp only
    rw [bn_rd, h3, e4, ite_ap, if_neg (by rw [nn_lt (by omega) (by omega)]; omega)]
    rfl
theorem coa_lt (I : MI) {n : Nat} (h : n ≤ 16) (s : Nat) : coaC I n s < 1000 := by
  have := (cntF_N (fun i => !decide (nn s < I 22 (4 * i + 1)) && !decide (I 22 (4 * i + 2) < nn s)) n).2
  unfold coaC
  omega
theorem busy_A {I : MI} {n : Nat} {b : Int32} (hw : I 21 0 = nn 4) (h3 : I 21 3 = nn n) (hn : n ≤ 16) : lp (B_Texts_busiest_7 15 b) FU (0, 0, 0) I = some ((nn (coaC I n (bstF (coaC I n) 23)), nn (bstF (coaC I n) 23)), I) := by
  refine bst_A (n := 23) (by decide) (coa_lt I hn) ?_ (fun k f hk hf => ?_) (fun a c => ?_)
  · unfold B_Texts_busiest_7 K_Texts_busiest_20 K_Texts_busiest_59
    have l := coats_A (a := b) (b := 0) (c := 0) (h := 0) hw h3 hn
    have c0 := coa_lt I hn 0
    rw [ite_ap, if_pos (show (0 : Int32) < 24 by decide), bn_of (show lp (B_Texts_busiest_20 15 b 0 0 0) FU (0, 0) I = _ from l), ite_ap]
    by_cases z : coaC I n 0 = 0
    · rw [z, if_neg (show ¬ (0 : Int32) < nn 0 by decide)]; rfl
    · rw [if_pos (show (0 : Int32) < nn (coaC I n 0) from (nn_lt (j := 0) (by decide) (by omega)).mpr (by omega))]; rfl
  · unfold B_Texts_busiest_7 K_Texts_busiest_20 K_Texts_busiest_59
    have l := coats_A (a := b) (b := nn (coaC I n f)) (c := nn f) (h := k + 1) hw h3 hn
    dsimp only
    rw [ite_ap, if_pos (show nn (k + 1) < 24 from (nn_lt (j := k + 1) (k := 24) (by omega) (by decide)).mpr (by omega)), bn_of l, ite_ap, nn_s]
    by_cases q : nn (coaC I n f) < nn (coaC I n (k + 1))
    · rw [if_pos q, if_pos q]; rfl
    · rw [if_neg q, if_neg q]; rfl
  · rfl
theorem busy_R {I J : MI} {n : Nat} {b : Int32} (hn : n ≤ 16) (h3 : J 207 36 = nn n) (hc : ∀ i, i < n → J 226 (4 * i + 1) = I 22 (4 * i + 1) ∧ J 226 (4 * i + 2) = I 22 (4 * i + 2)) : lp (B_R_least_45 b) FU (0, 1) J = some (nn (bstF (coaC I n) 23), J) := by
  refine bst_R (n := 23) (by decide) (coa_lt I hn) (fun k f hk hf => ?_) (fun a => ?_)
  · unfold B_R_least_45
    dsimp only
    rw [ite_ap, if_pos (show nn (k + 1) < 24 from (nn_lt (j := k + 1) (k := 24) (by omega) (by decide)).mpr (by omega)), bn_of (coats_R hn h3 hc), bn_of (coats_R hn h3 hc), ite_ap, nn_s]
    by_cases q : nn (coaC I n f) < nn (coaC I n (k + 1))
    · rw [if_pos q, if_pos q]; rfl
    · rw [if_neg q, if_neg q]; rfl
  · rfl
/-! watch -/
/-- streets beside those of a set, by their masks -/
def orF (B : Nat → Int32) (s : Nat) (x : Int32) : Nat → Int32
  | 0 => x
  | k + 1 => if s.testBit k = true then orF B s x k ||| B k else orF B s x k
theorem orF_x (B : Nat → Int32) (s : Nat) (x : Int32) (n : Nat) : orF B s x n = x ||| orF B s 0 n := by
  induction n with
  | zero =>
    show x = x ||| 0
    apply bv_inj
    show x.toBitVec = x.toBitVec ||| 0#32
    rw [BitVec.or_zero]
  | succ n ih =>
    unfold orF
    by_cases h : s.testBit n = true
    · rw [if_pos h, if_pos h, ih, Int32.or_assoc]
    · rw [if_neg h, if_neg h, ih]
def domB (B : Nat → Int32) (s : Nat) : Bool := decide (orF B s (nn s) 10 = 1023)
theorem beside_A {I : MI} {s : Nat} (hs : s < 1024) : F_Port_besideAny (nn s) I = some (orF (I 191) s 0 10, I) := by
  unfold F_Port_besideAny K_Port_besideAny_4
  refine lp_val (body := B_Port_besideAny_4 (nn s)) (fun k => (orF (I 191) s 0 k, nn k)) 10 (fun k hk => ?_) rfl FU (by rw [FU_eq]; decide)
  unfold B_Port_besideAny_4
  dsimp only
  rw [ite_ap, if_pos (show nn k < 10 from (nn_lt (j := k) (k := 10) (by omega) (by decide)).mpr hk), bit_nn (by omega) (by omega), ite_ap, nn_s]
  conv => rhs; unfold orF
  by_cases h : s.testBit k = true
  · simp only [if_pos h]
    rw [if_neg one_ne, bn_ld _ _ (inR_nn hk (by omega)), nn_nat (by omega)]
    rfl
  · simp only [if_neg h]
    rw [if_pos trivial]
    rfl
theorem seen_R {J : MI} {s : Nat} {a : Int32} (hs : s < 1024) : lp (B_R_watchSet_17 a (nn s)) FU (nn s, 0) J = some (orF (J 228) s (nn s) 10, J) := by
  refine lp_val (body := B_R_watchSet_17 a (nn s)) (fun k => (orF (J 228) s (nn s) k, nn k)) 10 (fun k hk => ?_) rfl FU (by rw [FU_eq]; decide)
  unfold B_R_watchSet_17
  dsimp only
  rw [ite_ap, if_pos (show nn k < 10 from (nn_lt (j := k) (k := 10) (by omega) (by decide)).mpr hk), has_nn (by omega) (by omega), bn_rt, ite_ap, nn_s]
  conv => rhs; unfold orF
  by_cases h : s.testBit k = true
  · simp only [if_pos h]
    rw [if_neg one_ne, bn_ld _ _ (inR_nn (by omega) (by omega)), nn_nat (by omega)]
    rfl
  · simp only [if_neg h]
    rw [if_pos trivial]
    rfl
/-- better: fewer, or as many and less -/
def bet (a b : Nat) : Prop := pcN a < pcN b ∨ (pcN a = pcN b ∧ a ≤ b)
def wbA (D : Nat → Bool) : Nat → Nat
  | 0 => 1023
  | k + 1 => if pcN k < pcN (wbA D k) ∧ D k = true then k else wbA D k
/-- downwards: after so many steps from 1022 -/
def wbR (D : Nat → Bool) : Nat → Nat
  | 0 => 1023
  | k + 1 => if D (1022 - k) = true ∧ pcN (1022 - k) ≤ pcN (wbR D k) then 1022 - k else wbR D k
theorem pc_top : (List.range 1024).all (fun m => decide (pcN m ≤ 10) && (decide (pcN m < 10) || decide (m = 1023))) = true := by decide +kernel
theorem pc_le {m : Nat} (h : m < 1024) : pcN m ≤ 10 ∧ (pcN m = 10 → m = 1023) := by
  have q := List.all_eq_true.mp pc_top m (List.mem_range.mpr h)
  obtain ⟨q1, q2⟩ := and_mp q
  refine ⟨of_decide_eq_true q1, fun e => ?_⟩
  simp only [Bool.or_eq_true, decide_eq_true_eq] at q2
  omega
theorem pc_1023 : pcN 1023 = 10 := by decide +kernel
theorem wbA_inv (D : Nat → Bool) (h1023 : D 1023 = true) : ∀ k, k ≤ 1024 → D (wbA D k) = true ∧ (wbA D k < k ∨ wbA D k = 1023) ∧ ∀ s, s < k → D s = true → bet (wbA D k) s := by
  intro k
  induction k with
  | zero => intro _; exact ⟨h1023, Or.inr rfl, fun s hs => absurd hs (by omega)⟩
  | succ k ih =>
    intro hk
    obtain ⟨a1, a2, a3⟩ := ih (by omega)
    unfold wbA
    by_cases q : pcN k < pcN (wbA D k) ∧ D k = true
    · rw [if_pos q]
      refine ⟨q.2, Or.inl (by omega), fun s hs hD => ?_⟩
      by_cases e : s = k
      · subst e; exact Or.inr ⟨rfl, Nat.le_refl _⟩
      · rcases a3 s (by omega) hD with b | b
        · exact Or.inl (by omega)
        · exact Or.inl (by omega)
    · rw [if_neg q]
      refine ⟨a1, by omega, fun s hs hD => ?_⟩
      by_cases e : s = k
      · subst e
        have q2 : ¬ pcN s < pcN (wbA D s) := fun h => q ⟨h, hD⟩
        by_cases e2 : pcN (wbA D s) = pcN s
        · refine Or.inr ⟨e2, ?_⟩
          rcases a2 with b | b
          · omega
          · rw [b, pc_1023] at e2
            have := (pc_le (m := s) (by omega)).2 e2.symm
            omega
        · exact Or.inl (by omega)
      · exact a3 s (by omega) hD
theorem wbR_inv (D : Nat → Bool) (h1023 : D 1023 = true) : ∀ k, k ≤ 1023 → D (wbR D k) = true ∧ 1023 - k ≤ wbR D k ∧ wbR D k ≤ 1023 ∧ ∀ s, 1023 - k ≤ s → s < 1024 → D s = true → bet (wbR D k) s := by
  intro k
  induction k with
  | zero =>
    intro _
    refine ⟨h1023, Nat.le_refl _, Nat.le_refl _, fun s h1 h2 _ => ?_⟩
    have : s = 1023 := by omega
    subst this
    exact Or.inr ⟨rfl, Nat.le_refl _⟩
  | succ k ih =>
    intro hk
    obtain ⟨a1, a2, a3, a4⟩ := ih (by omega)
    unfold wbR
    by_cases q : D (1022 - k) = true ∧ pcN (1022 - k) ≤ pcN (wbR D k)
    · rw [if_pos q]
      refine ⟨q.1, by omega, by omega, fun s h1 h2 hD => ?_⟩
      by_cases e : s = 1022 - k
      · subst e; exact Or.inr ⟨rfl, Nat.le_refl _⟩
      · rcases a4 s (by omega) h2 hD with b | b
        · exact Or.inl (by omega)
        · by_cases e2 : pcN (1022 - k) = pcN s
          · exact Or.inr ⟨e2, by omega⟩
          · exact Or.inl (by omega)
    · rw [if_neg q]
      refine ⟨a1, by omega, a3, fun s h1 h2 hD => ?_⟩
      by_cases e : s = 1022 - k
      · subst e
        exact Or.inl (by
          have : ¬ pcN (1022 - k) ≤ pcN (wbR D k) := fun h => q ⟨hD, h⟩
          omega)
      · exact a4 s (by omega) h2 hD
theorem wb_eq (D : Nat → Bool) (h : D 1023 = true) : wbA D 1024 = wbR D 1023 := by
  obtain ⟨a1, a2, a3⟩ := wbA_inv D h 1024 (Nat.le_refl _)
  obtain ⟨b1, b2, b3, b4⟩ := wbR_inv D h 1023 (Nat.le_refl _)
  have c1 := a3 (wbR D 1023) (by omega) b1
  have c2 := b4 (wbA D 1024) (by omega) (by omega) a1
  unfold bet at c1 c2
  omega
theorem wbA_lt (D : Nat → Bool) (k : Nat) (hk : k ≤ 1024) : wbA D k < 1024 := by
  induction k with
  | zero => show (1023 : Nat) < 1024; decide
  | succ k ih =>
    unfold wbA
    by_cases q : pcN k < pcN (wbA D k) ∧ D k = true
    · rw [if_pos q]; omega
    · rw [if_neg q]; exact ih (by omega)
theorem wbR_lt (D : Nat → Bool) (k : Nat) (hk : k ≤ 1023) : wbR D k < 1024 := by
  induction k with
  | zero => show (1023 : Nat) < 1024; decide
  | succ k ih =>
    unfold wbR
    by_cases q : D (1022 - k) = true ∧ pcN (1022 - k) ≤ pcN (wbR D k)
    · rw [if_pos q]; omega
    · rw [if_neg q]; exact ih (by omega)
theorem watch_A {I : MI} : K_Port_watched_10 1023 0 I = some (nn (wbA (domB (I 191)) 1024), I) := by
  unfold K_Port_watched_10
  refine lp_val (body := B_Port_watched_10) (fun k => (nn (wbA (domB (I 191)) k), nn k)) 1024 (fun k hk => ?_) ?_ FU (by rw [FU_eq]; decide)
  · unfold B_Port_watched_10
    have hb := wbA_lt (domB (I 191)) k (by omega)
    have p1 := pc_le (m := k) hk
    have p2 := pc_le hb
    dsimp only
    rw [ite_ap, if_neg (show ¬ (1023 : Int32) < nn k by rw [show (1023 : Int32) = nn 1023 from rfl, nn_lt (by decide) (by omega)]; omega), bc_nn hk, bn_rt, bc_nn hb, bn_rt, ite_ap, nn_s]
    conv => rhs; unfold wbA
    by_cases q : pcN k < pcN (wbA (domB (I 191)) k)
    · rw [if_pos ((nn_lt (by omega) (by omega)).mpr q), bn_of (beside_A hk), ite_ap, ← orF_x]
      by_cases d : orF (I 191) k (nn k) 10 = 1023
      · rw [if_pos d, if_pos ⟨q, by unfold domB; exact decide_eq_true d⟩]; rfl
      · rw [if_neg d, if_neg (fun h => d (by have := h.2; unfold domB at this; exact of_decide_eq_true this))]; rfl
    · rw [if_neg (by rw [nn_lt (by omega) (by omega)]; exact q), if_neg (fun h => q h.1)]; rfl
  · unfold B_Port_watched_10
    dsimp only
    generalize nn (wbA (domB (I 191)) 1024) = S
    rw [ite_ap, if_pos (show (1023 : Int32) < nn 1024 by decide)]
    rfl
theorem neg_nn {k : Nat} (hk : k < 2 ^ 31) : nn (k + 1) + -1 = nn k := by
  rw [show (-1 : Int32) = -(nn 1) from rfl, ← Int32.sub_eq_add_neg, nn_sub (by omega)]
  rfl
theorem watch_R {J : MI} : F_R_watchSet J = some (nn (wbR (domB (J 228)) 1023), J) := by
  unfold F_R_watchSet K_R_watchSet_8
  refine lp_val (body := B_R_watchSet_8) (fun k => (nn (wbR (domB (J 228)) k), if k ≤ 1022 then nn (1022 - k) else -1)) 1023 (fun k hk => ?_) ?_ FU (by rw [FU_eq]; decide)
  · unfold B_R_watchSet_8 K_R_watchSet_17 K_R_watchSet_50
    have hb := wbR_lt (domB (J 228)) k (by omega)
    have p1 := pc_le (m := 1022 - k) (by omega)
    have p2 := pc_le hb
    have st : nn (1022 - k) + -1 = (if k + 1 ≤ 1022 then nn (1022 - (k + 1)) else -1) := by
      by_cases h : k + 1 ≤ 1022
      · rw [if_pos h, show 1022 - k = (1022 - (k + 1)) + 1 by omega, neg_nn (by omega)]
      · rw [if_neg h, show 1022 - k = 0 by omega]; rfl
    dsimp only
    rw [if_pos (show k ≤ 1022 by omega), ite_ap, if_neg (nn_neg (by omega)), bn_of (seen_R (by omega)), ite_ap, st]
    conv => rhs; unfold wbR
    generalize (if k + 1 ≤ 1022 then nn (1022 - (k + 1)) else (-1 : Int32)) = T
    by_cases d : orF (J 228) (1022 - k) (nn (1022 - k)) 10 = 1023
    · have dd : domB (J 228) (1022 - k) = true := by unfold domB; exact decide_eq_true d
      rw [if_pos d, on_nn (by omega), bn_rt, on_nn hb, bn_rt, ite_ap]
      by_cases q : pcN (1022 - k) ≤ pcN (wbR (domB (J 228)) k)
      · rw [if_neg (by rw [nn_lt (by omega) (by omega)]; omega), if_pos ⟨dd, q⟩]; rfl
      · rw [if_pos ((nn_lt (by omega) (by omega)).mpr (by omega)), if_neg (fun h => q h.2)]; rfl
    · have dd : ¬ domB (J 228) (1022 - k) = true := fun h => d (by unfold domB at h; exact of_decide_eq_true h)
      rw [if_neg d, if_neg (fun h => dd h.1)]; rfl
  · unfold B_R_watchSet_8
    dsimp only
    generalize nn (wbR (domB (J 228)) 1023) = S
    rw [if_neg (show ¬ 1023 ≤ 1022 by decide), ite_ap, if_pos (show (-1 : Int32) < 0 by decide)]
    rfl
theorem orF_congr {B C : Nat → Int32} {s : Nat} {x : Int32} : ∀ {n : Nat}, (∀ k, k < n → B k = C k) → orF B s x n = orF C s x n := by
  intro n
  induction n with
  | zero => intro _; rfl
  | succ n ih =>
    intro h
    unfold orF
    rw [ih (fun k hk => h k (by omega)), h n (by omega)]
theorem orF_le {B : Nat → Int32} {s x : Nat} (hx : x < 1024) (hB : ∀ k, k < 10 → ∃ m, m < 1024 ∧ B k = nn m) : ∀ n, n ≤ 10 → ∃ m, m < 1024 ∧ orF B s (nn x) n = nn m ∧ ∀ b, x.testBit b = true → m.testBit b = true := by
  intro n
  induction n with
  | zero => intro _; exact ⟨x, hx, rfl, fun b h => h⟩
  | succ n ih =>
    intro hn
    obtain ⟨m, m1, m2, m3⟩ := ih (by omega)
    obtain ⟨q, q1, q2⟩ := hB n (by omega)
    unfold orF
    by_cases h : s.testBit n = true
    · rw [if_pos h, m2, q2, or_nn (by omega) (by omega)]
      exact ⟨m ||| q, Nat.or_lt_two_pow (n := 10) m1 q1, rfl, fun b hb => by rw [Nat.testBit_or, m3 b hb]; rfl⟩
    · rw [if_neg h]; exact ⟨m, m1, m2, m3⟩
theorem dom_top {B : Nat → Int32} (hB : ∀ k, k < 10 → ∃ m, m < 1024 ∧ B k = nn m) : domB B 1023 = true := by
  unfold domB
  obtain ⟨m, m1, m2, m3⟩ := orF_le (s := 1023) (x := 1023) (by decide) hB 10 (Nat.le_refl _)
  rw [m2, msk_eq m1 (show 1023 < 1024 by decide) (fun b hb => ?_)]
  · rfl
  · have t : (1023 : Nat).testBit b = true := by
      have e : (1023 : Nat) = 2 ^ 10 - 1 := by decide
      rw [e, Nat.testBit_two_pow_sub_one]
      simpa using hb
    rw [t, m3 b t]
theorem c_least (x : Int32) : Call (F_A_least x) (F_R_least x) := by
  refine call_of fun I J hr => ?_
  obtain ⟨⟨-, -, -, k4, -, k6, -⟩, -, -, -, kc⟩ := id hr
  obtain ⟨n, hn, hI, hJ, hc⟩ := k4
  obtain ⟨tw, -⟩ := con_at kc (t := 21) (w := 4) (r := 16) (by decide)
  have hI : I 21 3 = nn n := hI
  have bA : ∀ b, lp (B_Texts_busiest_7 15 b) FU (0, 0, 0) I = _ := fun b => busy_A tw hI hn
  have cc : ∀ i, i < n → (bup J 207 (upd (J 207) 0 0)) 226 (4 * i + 1) = I 22 (4 * i + 1) ∧ (bup J 207 (upd (J 207) 0 0)) 226 (4 * i + 2) = I 22 (4 * i + 2) := fun i hi => ⟨(hc i hi).2.1, (hc i hi).2.2.1⟩
  have bR : ∀ b, lp (B_R_least_45 b) FU (0, 1) (bup J 207 (upd (J 207) 0 0)) = _ := fun b => busy_R (I := I) hn (by exact hJ) cc
  have cR := coats_R (I := I) (J := bup J 207 (upd (J 207) 0 0)) (h := bstF (coaC I n) 23) hn (by exact hJ) cc
  obtain ⟨B, m1, m2, m3⟩ := map_ok k6 (con_at kc (t := 25) (w := 2) (r := 16) (by decide)).1
  have wA := watch_A (I := bup I 191 B)
  rw [bup_eq] at wA
  have wR := watch_R (J := bup J 207 (upd (J 207) 0 0))
  have e228 : (bup J 207 (upd (J 207) 0 0)) 228 = J 228 := rfl
  rw [e228] at wR
  have de : domB B = domB (J 228) := by
    funext s
    unfold domB
    rw [orF_congr m2]
  rw [de] at wA
  have dt := dom_top m3
  rw [de] at dt
  rw [wb_eq _ dt] at wA
  have hw := wbR_lt (domB (J 228)) 1023 (Nat.le_refl _)
  unfold F_A_least F_Texts_busiest K_Texts_busiest_7 K_Texts_busiest_77 F_Port_watched F_R_least K_R_least_45 K_R_least_72
  rcases rng (v := x) 0 3 (by decide) (by decide) with ⟨k, -, a2, rfl⟩ | out
  · have qq := rng_in (a := 0) (b := 3) (by decide) (Nat.zero_le k) a2
    have iR : F_R_isIn (nn k) 0 3 = rt 1 := ri_in qq.1 qq.2
    match k, a2 with
    | 0, _ =>
      simp (decide := true) only [ok_bn, ok_wr, ok_rt, ok_ite, iR, ok_eq (bA 0), ok_eq (bR (nn 0)), ok_eq cR, if_true, if_false, true_and]
      exact rl_told hr
    | 1, _ =>
      simp (decide := true) only [ok_bn, ok_wr, ok_rt, ok_ite, iR, ok_eq (bA 1), ok_eq (bR (nn 1)), if_true, if_false, true_and]
      exact rl_told hr
    | 2, _ =>
      simp (decide := true) only [ok_bn, ok_wr, ok_rt, ok_ite, iR, ok_eq m1, ok_eq wA, ok_eq wR, bc_nn hw, on_nn hw, if_true, if_false, true_and]
      exact rl_map hr B
    | 3, _ =>
      simp (decide := true) only [ok_bn, ok_wr, ok_rt, ok_ite, iR, ok_eq m1, ok_eq wA, ok_eq wR, if_true, if_false, true_and]
      exact rl_map hr B
    | k + 4, h => omega
  · have iR : F_R_isIn x 0 3 = rt 0 := ri_out out
    have ne : ∀ c, c ≤ 3 → ¬ x = nn c := by
      intro c hc e
      subst e
      have q := rng_in (a := 0) (b := 3) (by decide) (Nat.zero_le c) hc
      rcases out with h | h
      · exact q.1 h
      · exact q.2 h
    have n0 : ¬ x = 0 := ne 0 (by decide)
    have n1 : ¬ x = 1 := ne 1 (by decide)
    have n2 : ¬ x = 2 := ne 2 (by decide)
    have n3 : ¬ x = 3 := ne 3 (by decide)
    simp (decide := true) only [ok_bn, ok_wr, ok_rt, ok_ite, if_neg n0, if_neg n1, if_neg n2, if_neg n3, iR, if_true, if_false, true_and]
    exact rl_told hr
end SC14
