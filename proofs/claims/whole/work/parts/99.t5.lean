/-! text: the words -/
section TE99
theorem ite_iff {α : Type} {a b : Prop} [Decidable a] [Decidable b] (h : a ↔ b) (x y : α) : (if a then x else y) = if b then x else y := by
  by_cases ha : a
  · rw [if_pos ha, if_pos (h.mp ha)]
  · rw [if_neg ha, if_neg fun z => ha (h.mpr z)]
def wdC (k : Nat) : Int32 := nn (wordL.getD k 0)
def wdL : List (Nat × Nat) := [(0, 4), (5, 5), (11, 5), (17, 4), (22, 2), (25, 3), (29, 3), (33, 4), (38, 4), (43, 4), (48, 5), (54, 5), (60, 4), (65, 6), (72, 6), (79, 3), (83, 5), (89, 4), (94, 2), (97, 2), (100, 2), (103, 2), (106, 4), (111, 4), (116, 3), (120, 2)]
def okW : Nat → List (Nat × Nat) → Bool
  | p, [] => decide (p = 123)
  | p, (q, l) :: r => decide (q = p) && decide (0 < l) && decide (p + 1 + l ≤ 123) && (List.range l).all (fun j => decide (¬ wdC (p + 1 + j) = 32)) && decide (wdC (p + 1 + l) = 32) && okW (p + l + 1) r
theorem wd_ok : okW 0 wdL = true := by decide +kernel
theorem kw_C : (List.range 122).all (fun k => decide (kwC k = wdC (k + 1))) = true := by decide +kernel
theorem kw_at {k : Nat} (h : k < 122) : kwC k = wdC (k + 1) := of_decide_eq_true (List.all_eq_true.mp kw_C k (List.mem_range.mpr h))
theorem okW_c {p q l : Nat} {r : List (Nat × Nat)} (h : okW p ((q, l) :: r) = true) : q = p ∧ 0 < l ∧ p + 1 + l ≤ 123 ∧ (∀ j, j < l → ¬ wdC (p + 1 + j) = 32) ∧ wdC (p + 1 + l) = 32 ∧ okW (p + l + 1) r = true := by
  unfold okW at h
  simp only [Bool.and_eq_true, decide_eq_true_eq] at h
  obtain ⟨⟨⟨⟨⟨h1, h2⟩, h3⟩, h4⟩, h5⟩, h6⟩ := h
  exact ⟨h1, h2, h3, fun j hj => of_decide_eq_true (List.all_eq_true.mp h4 j (List.mem_range.mpr hj)), h5, h6⟩
def mtc (T : Nat → Int32) (s p l : Nat) : Bool := (List.range l).all fun j => decide (wdC (p + 1 + j) = T (s + j))
theorem mtc_iff {T : Nat → Int32} {s p l : Nat} : mtc T s p l = true ↔ ∀ j, j < l → wdC (p + 1 + j) = T (s + j) := by
  unfold mtc
  rw [List.all_eq_true]
  constructor
  · intro h j hj; exact of_decide_eq_true (h j (List.mem_range.mpr hj))
  · intro h j hj; exact decide_eq_true (h j (List.mem_range.mp hj))
/-- which word lies from s to e: the first of the list -/
def kwR (T : Nat → Int32) (s e : Nat) : List (Nat × Nat) → Nat → Int32
  | [], _ => -1
  | (p, l) :: r, i => if l = e - s ∧ mtc T s p l = true then nn i else kwR T s e r (i + 1)
theorem matches_A {I : MI} {p s e l : Nat} (he : e ≤ 400) (hl : e = s + l) (hp : p + l ≤ 122) : F_Reader_matches (nn p) (nn s) (nn e) I = some (if mtc (I 106) s p l = true then 1 else 0, I) := by
  unfold F_Reader_matches K_Reader_matches_3
  rw [all_from (n := e) (k0 := s) (e0 := 0) (e1 := 1) (fun k => decide (wdC (p + 1 + (k - s)) = I 106 k)) (by omega) (by omega) ?_ ?_]
  · congr 2
    refine ite_iff ?_ _ _
    rw [mtc_iff, List.all_eq_true]
    constructor
    · intro h j hj
      have q := h (s + j) (List.mem_range.mpr (by omega))
      rw [Bool.or_eq_true] at q
      rcases q with q | q
      · exact absurd (of_decide_eq_true q) (by omega)
      · have q := of_decide_eq_true q
        rw [show s + j - s = j by omega] at q
        exact q
    · intro h j hj
      rw [Bool.or_eq_true]
      by_cases hjs : j < s
      · exact Or.inl (decide_eq_true hjs)
      · refine Or.inr (decide_eq_true ?_)
        have hj := List.mem_range.mp hj
        have q := h (j - s) (by omega)
        rw [show s + (j - s) = j by omega] at q
        exact q
  · intro k h1 h2
    have hO : Ok (B_Reader_matches_3 (nn p) (nn s) (nn e) (nn k)) I fun r K => r = (if (fun k => decide (wdC (p + 1 + (k - s)) = I 106 k)) k = true then .inl (nn (k + 1)) else .inr 0) ∧ K = I := by
      have g : nn k < nn e := (nn_lt (by omega) (by omega)).mpr h2
      have i1 : inR (nn k) 400 = true := inR_nn (by omega) (by omega)
      have t1 : (nn k).toNatClampNeg = k := nn_nat (by omega)
      have x1 : nn p + nn k - nn s = nn (p + (k - s)) := by
        rw [nn_add, nn_sub (by omega)]
        have : p + k - s = p + (k - s) := by omega
        rw [this]
      have i2 : inR (nn (p + (k - s))) 122 = true := inR_nn (by omega) (by omega)
      have t2 : (nn (p + (k - s))).toNatClampNeg = p + (k - s) := nn_nat (by omega)
      have w2 : kwC (p + (k - s)) = wdC (p + 1 + (k - s)) := by
        rw [kw_at (by omega), show p + (k - s) + 1 = p + 1 + (k - s) by omega]
      unfold B_Reader_matches_3
      simp only [ok_ite, if_pos g, x1, ok_bn, ok_gd, i2, ok_ld, i1, t1, t2, w2, true_and, decide_eq_true_eq]
      by_cases h : wdC (p + 1 + (k - s)) = I 106 k
      · simp only [if_pos h, ok_rt, nn_s, and_self]
      · simp only [if_neg h, ok_bn, ok_gdZ, ok_rt, true_or, and_self]
    obtain ⟨r, K, q1, rfl, rfl⟩ := hO
    exact q1
  · have g : ¬ nn e < nn e := fun q => by have := (nn_lt (j := e) (k := e) (by omega) (by omega)).mp q; omega
    unfold B_Reader_matches_3
    rw [if_neg g, gdZ1, bn_rt]; rfl
theorem kwA_go {I : MI} {p i l s e : Nat} (hp : p + 1 + l ≤ 123) (hw : ∀ j, j < l → ¬ wdC (p + 1 + j) = 32) : ∀ m j N, j + m = l → lp (B_Reader_keyword_8 (nn s) (nn e)) (m + N) (nn p, nn i, nn (p + j)) I = lp (B_Reader_keyword_8 (nn s) (nn e)) N (nn p, nn i, nn (p + l)) I := by
  intro m
  induction m with
  | zero =>
    intro j N h
    have : j = l := by omega
    subst this
    rw [Nat.zero_add]
  | succ m ih =>
    intro j N h
    have e1 : m + 1 + N = (m + N) + 1 := by omega
    have st : B_Reader_keyword_8 (nn s) (nn e) (nn p, nn i, nn (p + j)) I = some (.inl (nn p, nn i, nn (p + (j + 1))), I) := by
      have hO : Ok (B_Reader_keyword_8 (nn s) (nn e) (nn p, nn i, nn (p + j))) I fun r K => r = .inl (nn p, nn i, nn (p + (j + 1))) ∧ K = I := by
        have g1 : ¬ nn 122 < nn (p + j) := fun q => by have := (nn_lt (by omega) (by omega)).mp q; omega
        have g2 : ¬ nn (p + j) = nn 122 := fun q => by have := (nn_inj (by omega) (by omega)).mp q; omega
        have i1 : inR (nn (p + j)) 122 = true := inR_nn (by omega) (by omega)
        have t1 : (nn (p + j)).toNatClampNeg = p + j := nn_nat (by omega)
        have w1 : ¬ kwC (p + j) = 32 := by
          rw [kw_at (by omega), show p + j + 1 = p + 1 + j by omega]
          exact hw j (by omega)
        unfold B_Reader_keyword_8
        simp only [ok_ite, if_neg g1, if_neg g2, ok_bn, ok_gd, i1, t1, true_and, if_neg w1, ok_rt, nn_s, and_self, Nat.add_assoc]
      obtain ⟨r, K, q1, rfl, rfl⟩ := hO
      exact q1
    rw [e1, lp_s, bn_of st]
    exact ih (j + 1) N (by omega)
theorem kwA_lp {I : MI} {s e : Nat} (hs : s ≤ e) (he : e ≤ 400) : ∀ (L : List (Nat × Nat)) (p i N : Nat), okW p L = true → 124 ≤ N + p → lp (B_Reader_keyword_8 (nn s) (nn e)) N (nn p, nn i, nn p) I = some (kwR (I 106) s e L i, I) := by
  intro L
  induction L with
  | nil =>
    intro p i N h hN
    have hp : p = 123 := by unfold okW at h; exact of_decide_eq_true h
    subst hp
    obtain ⟨N, rfl⟩ : ∃ N', N = N' + 1 := ⟨N - 1, by omega⟩
    have st : B_Reader_keyword_8 (nn s) (nn e) (nn 123, nn i, nn 123) I = some (.inr (-1), I) := by
      unfold B_Reader_keyword_8
      rw [if_pos (show Int32.ofNat 122 < nn 123 by decide)]
      rfl
    rw [lp_s, bn_of st]
    rfl
  | cons w r ih =>
    intro p i N h hN
    obtain ⟨q, l⟩ := w
    obtain ⟨rfl, h2, h3, h4, h5, h6⟩ := okW_c h
    obtain ⟨N, rfl⟩ : ∃ N', N = l + (N' + 1) := ⟨N - l - 1, by omega⟩
    have g0 : lp (B_Reader_keyword_8 (nn s) (nn e)) (l + (N + 1)) (nn q, nn i, nn q) I = lp (B_Reader_keyword_8 (nn s) (nn e)) (N + 1) (nn q, nn i, nn (q + l)) I := kwA_go (I := I) (i := i) (s := s) (e := e) h3 h4 l 0 (N + 1) (by omega)
    rw [g0, lp_s]
    have k40 : B_Reader_keyword_8 (nn s) (nn e) (nn q, nn i, nn (q + l)) I = K_Reader_keyword_40 (nn s) (nn e) (nn q) (nn i) (nn (q + l)) I := by
      have g1 : ¬ nn 122 < nn (q + l) := fun z => by have := (nn_lt (by omega) (by omega)).mp z; omega
      unfold B_Reader_keyword_8
      rw [if_neg g1]
      by_cases g2 : nn (q + l) = nn 122
      · rw [if_pos g2]
      · have g3 : q + l < 122 := by
          have : ¬ q + l = 122 := fun z => g2 (by rw [z])
          omega
        have w1 : kwC (nn (q + l)).toNatClampNeg = 32 := by
          rw [nn_nat (by omega), kw_at (by omega), show q + l + 1 = q + 1 + l by omega]
          exact h5
        rw [if_neg g2, bn_gd _ _ (inR_nn (by omega) (by omega)), if_pos w1]
    have st : B_Reader_keyword_8 (nn s) (nn e) (nn q, nn i, nn (q + l)) I = some (if l = e - s ∧ mtc (I 106) s q l = true then .inr (nn i) else .inl (nn (q + l + 1), nn (i + 1), nn (q + l + 1)), I) := by
      rw [k40]
      unfold K_Reader_keyword_40
      rw [nn_sub (by omega), nn_sub (by omega), show q + l - q = l by omega]
      by_cases hl : l = e - s
      · rw [if_pos (show nn l = nn (e - s) by rw [← hl]), bn_of (matches_A (l := l) (by omega) (by omega) (by omega))]
        by_cases hm : mtc (I 106) s q l = true
        · rw [if_pos hm, if_neg one_ne, if_pos ⟨hl, hm⟩]; rfl
        · rw [if_neg hm, if_pos rfl, if_neg (show ¬ (l = e - s ∧ mtc (I 106) s q l = true) from fun z => hm z.2), show (1 : Int32) = nn 1 from rfl, nn_add, nn_add]; rfl
      · rw [if_neg fun z => hl ((nn_inj (by omega) (by omega)).mp z), if_neg fun z => hl z.1, show (1 : Int32) = nn 1 from rfl, nn_add, nn_add]; rfl
    rw [bn_of st]
    have e2 : kwR (I 106) s e ((q, l) :: r) i = if l = e - s ∧ mtc (I 106) s q l = true then nn i else kwR (I 106) s e r (i + 1) := rfl
    rw [e2]
    by_cases hc : l = e - s ∧ mtc (I 106) s q l = true
    · rw [if_pos hc, if_pos hc]; rfl
    · rw [if_neg hc, if_neg hc]
      exact ih (q + l + 1) (i + 1) N h6 (by omega)
theorem keyword_A {I : MI} {s e : Nat} (hs : s ≤ e) (he : e ≤ 400) : F_Reader_keyword (nn s) (nn e) I = some (kwR (I 106) s e wdL 0, I) := by
  unfold F_Reader_keyword K_Reader_keyword_8
  exact kwA_lp hs he wdL 0 0 FU wd_ok (by rw [FU_eq]; omega)
end TE99
