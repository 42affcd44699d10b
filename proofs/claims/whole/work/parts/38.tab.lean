/-! tables, and how all is put together again -/
section TBL
def tabL : List Nat := [17, 21, 23, 25, 27, 29, 31, 33, 35, 37, 39, 41, 43, 45, 63, 67, 69, 71, 73, 75, 77, 79, 81, 83, 85, 87, 89, 91, 96, 100, 102, 104]
def UT (I I1 : MI) : Prop := ∀ t, memN t tabL = true → I1 t 0 = I t 0 ∧ I1 t 1 = I t 1
theorem ut_refl (I : MI) : UT I I := fun _ _ => ⟨rfl, rfl⟩
theorem ut_bup {I I1 : MI} {a : Nat} {g : Nat → Int32} (h : UT I I1) (ha : memN a tabL = false) : UT I (bup I1 a g) := by
  intro t ht
  rw [bup_ne _ _ (by intro e; rw [e, ha] at ht; cases ht)]
  exact h t ht
theorem ut_sz {I I1 : MI} {a : Nat} {x : Int32} (h : UT I I1) : UT I (bup I1 a (upd (I1 a) 3 x)) := by
  intro t ht
  by_cases e : t = a
  · subst e
    rw [bup_eq, upd_ne _ _ (by decide), upd_ne _ _ (by decide)]
    exact h t ht
  · rw [bup_ne _ _ e]
    exact h t ht
theorem tab_in : tabC.all (fun e => memN e.1 tabL) = true := by decide +kernel
theorem k_Con {l m f : List Nat} {I I1 J J1 : MI} (ht : UT I I1) (hu : UI l I I1) (hv : UJ m f J J1) (hd : (noneIn l [110, 122, 206] && noneIn (207 :: m) [217] && noneIn f [5]) = true) (k : bCon I J) : bCon I1 J1 := by
  simp only [Bool.and_eq_true] at hd
  obtain ⟨⟨d1, d2⟩, d3⟩ := hd
  obtain ⟨k1, k2, k3, k4, k5, k6⟩ := k
  refine ⟨fun e he => ?_, ?_, ?_, ?_, ?_, ?_⟩
  · have h := ht e.1 (List.all_eq_true.mp tab_in e he)
    rw [h.1, h.2]
    exact k1 e he
  · rw [hu 110 (noneIn_at d1 _ (by decide))]; exact k2
  · rw [hu 122 (noneIn_at d1 _ (by decide))]; exact k3
  · rw [hu 206 (noneIn_at d1 _ (by decide))]; exact k4
  · rw [hv.1 217 (noneIn_at d2 _ (by decide))]; exact k5
  · rw [hv.2 5 (noneIn_at d3 _ (by decide))]; exact k6
theorem k_Tap {l m f : List Nat} {I I1 J J1 : MI} (hu : UI l I I1) (hv : UJ m f J J1) (hd : (noneIn l [93, 106] && noneIn (207 :: m) [216] && noneIn f [14, 34, 35]) = true) (k : bTap I J) : bTap I1 J1 := by
  simp only [Bool.and_eq_true] at hd
  obtain ⟨⟨d1, d2⟩, d3⟩ := hd
  unfold bTap at k ⊢
  rw [hu 93 (noneIn_at d1 _ (by decide)), hu 106 (noneIn_at d1 _ (by decide)), hv.1 216 (noneIn_at d2 _ (by decide)), hv.2 14 (noneIn_at d3 _ (by decide)), hv.2 34 (noneIn_at d3 _ (by decide)), hv.2 35 (noneIn_at d3 _ (by decide))]
  exact k
theorem k_Stk {I I1 J : MI} {s : Nat} (h : ∀ c, s + 1 ≤ c → c < s + 46 → I1 c = I c) (k : bStk I s J) : bStk I1 s J := by
  have hh : ∀ a n, s + 1 ≤ a → a + n ≤ s + 46 → ∀ c, a ≤ c → c < a + n → I1 c = I c := fun a n h1 h2 c h3 h4 => h c (by omega) (by omega)
  obtain ⟨k1, k2, k3, k4, k5, k6, k7, k8, k9, k10, k11, k12, k13, k14, k15, k16⟩ := k
  refine ⟨k_Wor (hh _ _ (by omega) (by omega)) rfl rfl rfl rfl rfl rfl rfl k1, ?_, k_Law (hh _ _ (by omega) (by omega)) rfl rfl rfl rfl rfl rfl rfl k3, k_Sha (hh _ _ (by omega) (by omega)) rfl rfl k4, k_Dia (hh _ _ (by omega) (by omega)) (by rw [h _ (by omega) (by omega)]) (by rw [h _ (by omega) (by omega)]) rfl rfl k5, k_Way (hh _ _ (by omega) (by omega)) rfl rfl k6, k_Sig (hh _ _ (by omega) (by omega)) rfl rfl rfl k7, k_Pai (hh _ _ (by omega) (by omega)) rfl rfl rfl k8, k_Wrd (hh _ _ (by omega) (by omega)) rfl rfl rfl rfl k9, k_Vot (hh _ _ (by omega) (by omega)) rfl rfl k10, k_Not (hh _ _ (by omega) (by omega)) rfl rfl k11, k_Not (hh _ _ (by omega) (by omega)) rfl rfl k12, k_Boo (hh _ _ (by omega) (by omega)) rfl rfl k13, k_Bed (hh _ _ (by omega) (by omega)) rfl rfl rfl k14, k_Box (hh _ _ (by omega) (by omega)) rfl rfl k15, k_Loa (hh _ _ (by omega) (by omega)) rfl rfl k16⟩
  rw [h _ (by omega) (by omega)]
  exact k2
theorem k_Img {l m f : List Nat} {I I1 J J1 : MI} (hu : UI l I I1) (hv : UJ m f J J1) (h0 : I1 0 2 = I 0 2) (hd : (noneIn l (List.range' 48 45) && noneIn (207 :: m) [253] && noneIn f [75]) = true) (k : bImg I J) : bImg I1 J1 := by
  simp only [Bool.and_eq_true] at hd
  obtain ⟨⟨d1, d2⟩, d3⟩ := hd
  unfold bImg at k ⊢
  rw [h0, hv.1 253 (noneIn_at d2 _ (by decide)), hv.2 75 (noneIn_at d3 _ (by decide))]
  obtain ⟨a, b⟩ := k
  refine ⟨a, ?_⟩
  rcases b with b | ⟨b, c⟩
  · exact Or.inl b
  · refine Or.inr ⟨b, k_Stk (fun c h1 h2 => hu c (noneIn_ran d1 c (by omega) (by omega))) c⟩
theorem k_Pst {l m f : List Nat} {I I1 J J1 : MI} (hu : UI l I I1) (hv : UJ m f J J1) (h8 : I1 0 8 = I 0 8) (h9 : I1 0 9 = I 0 9) (hd : (noneIn l (List.range' 124 66) && noneIn (207 :: m) [209, 211, 212, 213, 214] && noneIn f [3, 6, 7]) = true) (k : bPst I J) : bPst I1 J1 := by
  simp only [Bool.and_eq_true] at hd
  obtain ⟨⟨d1, d2⟩, d3⟩ := hd
  unfold bPst at k ⊢
  rw [h8, h9, hv.2 3 (noneIn_at d3 _ (by decide)), hv.2 6 (noneIn_at d3 _ (by decide)), hv.2 7 (noneIn_at d3 _ (by decide)), hv.1 209 (noneIn_at d2 _ (by decide)), hv.1 211 (noneIn_at d2 _ (by decide)), hv.1 212 (noneIn_at d2 _ (by decide)), hv.1 213 (noneIn_at d2 _ (by decide)), hv.1 214 (noneIn_at d2 _ (by decide))]
  obtain ⟨n, c, a1, a2, a3, a4, a5, a6⟩ := k
  refine ⟨n, c, a1, a2, a3, a4, a5, fun r hr => ?_⟩
  obtain ⟨b1, b2, np, na, b3⟩ := a6 r hr
  have hh : ∀ q, 124 + 11 * ((n + 6 - c + r) % 6) ≤ q → q < 124 + 11 * ((n + 6 - c + r) % 6) + 11 → I1 q = I q := by
    intro q h1 h2
    have hm : (n + 6 - c + r) % 6 < 6 := Nat.mod_lt _ (by decide)
    exact hu q (noneIn_ran d1 q (by omega) (by omega))
  exact ⟨k_rW hh b1, k_rS hh b2, np, na, k_bW hh b3⟩
theorem pst_0 {I J : MI} {n : Nat} (hn : n < 6) (h8 : I 0 8 = nn n) (h9 : I 0 9 = 0) (h3 : J 207 3 = 0) : bPst I J := ⟨n, 0, hn, by decide, h8, h9, h3, fun r hr => absurd hr (by omega)⟩
/-- all again: a block that nothing touched, or one that holds anew -/
theorem rl_of {l m f : List Nat} {I I1 J J1 : MI} (hr : Rl I J) (hu : UI l I I1) (hv : UJ m f J J1) (ht : UT I I1) (h02 : I1 0 2 = I 0 2)
    (a1 : (noneIn l (List.range' 2 11) && noneIn (207 :: m) [208, 211, 212, 213, 214] && noneIn f [6, 7]) = true ∨ bWor I1 2 J1)
    (a2 : (noneIn l [14] && noneIn (207 :: m) [215]) = true ∨ bBk (I1 14) (J1 215))
    (a3 : (noneIn l (List.range' 16 4) && noneIn (207 :: m) [218, 219, 220, 221, 222, 223, 224]) = true ∨ bLaw I1 16 J1)
    (a4 : (noneIn l (List.range' 21 2) && noneIn (207 :: m) [226] && noneIn f [36]) = true ∨ bSha I1 21 J1)
    (a5 : (noneIn l (2 :: List.range' 23 2) && noneIn (207 :: m) [227] && noneIn f [38]) = true ∨ bDia I1 23 2 J1)
    (a6 : (noneIn l (List.range' 25 2) && noneIn (207 :: m) [228] && noneIn f [40]) = true ∨ bWay I1 25 J1)
    (a7 : (noneIn l (List.range' 27 2) && noneIn (207 :: m) [231, 232] && noneIn f [44]) = true ∨ bSig I1 27 J1)
    (a8 : (noneIn l (List.range' 29 2) && noneIn (207 :: m) [235, 236] && noneIn f [49]) = true ∨ bPai I1 29 J1)
    (a9 : (noneIn l (List.range' 31 2) && noneIn (207 :: m) [238, 239, 240] && noneIn f [53]) = true ∨ bWrd I1 31 J1)
    (a10 : (noneIn l (List.range' 33 2) && noneIn (207 :: m) [241] && noneIn f [57]) = true ∨ bVot I1 33 J1)
    (a11 : (noneIn l (List.range' 35 2) && noneIn (207 :: m) [242, 243]) = true ∨ bNot I1 35 0 J1)
    (a12 : (noneIn l (List.range' 37 2) && noneIn (207 :: m) [242, 243]) = true ∨ bNot I1 37 1 J1)
    (a13 : (noneIn l (List.range' 39 2) && noneIn (207 :: m) [244] && noneIn f [61]) = true ∨ bBoo I1 39 J1)
    (a14 : (noneIn l (List.range' 41 2) && noneIn (207 :: m) [245, 246] && noneIn f [63]) = true ∨ bBed I1 41 J1)
    (a15 : (noneIn l (List.range' 43 2) && noneIn (207 :: m) [248] && noneIn f [67]) = true ∨ bBox I1 43 J1)
    (a16 : (noneIn l (List.range' 45 2) && noneIn (207 :: m) [250] && noneIn f [70]) = true ∨ bLoa I1 45 J1)
    (b1 : (noneIn l [93, 106] && noneIn (207 :: m) [216] && noneIn f [14, 34, 35]) = true ∨ bTap I1 J1)
    (b2 : (I1 0 8 = I 0 8 ∧ I1 0 9 = I 0 9 ∧ (noneIn l (List.range' 124 66) && noneIn (207 :: m) [209, 211, 212, 213, 214] && noneIn f [3, 6, 7]) = true) ∨ bPst I1 J1)
    (b3 : (noneIn l (List.range' 48 45) && noneIn (207 :: m) [253] && noneIn f [75]) = true ∨ bImg I1 J1)
    (b4 : (noneIn l [110, 122, 206] && noneIn (207 :: m) [217] && noneIn f [5]) = true ∨ bCon I1 J1) : Rl I1 J1 := by
  obtain ⟨⟨k1, k2, k3, k4, k5, k6, k7, k8, k9, k10, k11, k12, k13, k14, k15, k16⟩, kt, kp, ki, kc⟩ := hr
  have hI : ∀ a n, noneIn l (List.range' a n) = true → ∀ c, a ≤ c → c < a + n → I1 c = I c := fun a n h c h1 h2 => hu c (noneIn_ran h c h1 h2)
  have hJ : ∀ {r : List Nat}, noneIn (207 :: m) r = true → ∀ c, c ∈ r → J1 c = J c := fun h c hc => hv.1 c (noneIn_at h c hc)
  have hF : ∀ {r : List Nat}, noneIn f r = true → ∀ c, c ∈ r → J1 207 c = J 207 c := fun h c hc => hv.2 c (noneIn_at h c hc)
  simp only [Bool.and_eq_true] at a1 a2 a3 a4 a5 a6 a7 a8 a9 a10 a11 a12 a13 a14 a15 a16
  refine ⟨⟨?_, ?_, ?_, ?_, ?_, ?_, ?_, ?_, ?_, ?_, ?_, ?_, ?_, ?_, ?_, ?_⟩, ?_, ?_, ?_, ?_⟩
  · rcases a1 with ⟨⟨d1, d2⟩, d3⟩ | h
    · exact k_Wor (hI _ _ d1) (hF d3 _ (by decide)) (hF d3 _ (by decide)) (hJ d2 _ (by decide)) (hJ d2 _ (by decide)) (hJ d2 _ (by decide)) (hJ d2 _ (by decide)) (hJ d2 _ (by decide)) k1
    · exact h
  · rcases a2 with ⟨d1, d2⟩ | h
    · have e1 := hu 14 (noneIn_at d1 _ (by decide))
      have e2 := hJ d2 215 (by decide)
      show bBk (I1 14) (J1 215)
      rw [e1, e2]
      exact k2
    · exact h
  · rcases a3 with ⟨d1, d2⟩ | h
    · exact k_Law (hI _ _ d1) (hJ d2 _ (by decide)) (hJ d2 _ (by decide)) (hJ d2 _ (by decide)) (hJ d2 _ (by decide)) (hJ d2 _ (by decide)) (hJ d2 _ (by decide)) (hJ d2 _ (by decide)) k3
    · exact h
  · rcases a4 with ⟨⟨d1, d2⟩, d3⟩ | h
    · exact k_Sha (hI _ _ d1) (hF d3 _ (by decide)) (hJ d2 _ (by decide)) k4
    · exact h
  · rcases a5 with ⟨⟨d1, d2⟩, d3⟩ | h
    · have e2 := hu 2 (noneIn_at d1 _ (by decide))
      exact k_Dia (fun c h1 h2 => hu c (noneIn_at d1 c (List.mem_cons_of_mem _ (List.mem_range'_1.mpr ⟨h1, h2⟩)))) (congrFun e2 7) (congrFun e2 8) (hF d3 _ (by decide)) (hJ d2 _ (by decide)) k5
    · exact h
  · rcases a6 with ⟨⟨d1, d2⟩, d3⟩ | h
    · exact k_Way (hI _ _ d1) (hF d3 _ (by decide)) (hJ d2 _ (by decide)) k6
    · exact h
  · rcases a7 with ⟨⟨d1, d2⟩, d3⟩ | h
    · exact k_Sig (hI _ _ d1) (hF d3 _ (by decide)) (hJ d2 _ (by decide)) (hJ d2 _ (by decide)) k7
    · exact h
  · rcases a8 with ⟨⟨d1, d2⟩, d3⟩ | h
    · exact k_Pai (hI _ _ d1) (hF d3 _ (by decide)) (hJ d2 _ (by decide)) (hJ d2 _ (by decide)) k8
    · exact h
  · rcases a9 with ⟨⟨d1, d2⟩, d3⟩ | h
    · exact k_Wrd (hI _ _ d1) (hF d3 _ (by decide)) (hJ d2 _ (by decide)) (hJ d2 _ (by decide)) (hJ d2 _ (by decide)) k9
    · exact h
  · rcases a10 with ⟨⟨d1, d2⟩, d3⟩ | h
    · exact k_Vot (hI _ _ d1) (hF d3 _ (by decide)) (hJ d2 _ (by decide)) k10
    · exact h
  · rcases a11 with ⟨d1, d2⟩ | h
    · exact k_Not (hI _ _ d1) (hJ d2 _ (by decide)) (hJ d2 _ (by decide)) k11
    · exact h
  · rcases a12 with ⟨d1, d2⟩ | h
    · exact k_Not (hI _ _ d1) (hJ d2 _ (by decide)) (hJ d2 _ (by decide)) k12
    · exact h
  · rcases a13 with ⟨⟨d1, d2⟩, d3⟩ | h
    · exact k_Boo (hI _ _ d1) (hF d3 _ (by decide)) (hJ d2 _ (by decide)) k13
    · exact h
  · rcases a14 with ⟨⟨d1, d2⟩, d3⟩ | h
    · exact k_Bed (hI _ _ d1) (hF d3 _ (by decide)) (hJ d2 _ (by decide)) (hJ d2 _ (by decide)) k14
    · exact h
  · rcases a15 with ⟨⟨d1, d2⟩, d3⟩ | h
    · exact k_Box (hI _ _ d1) (hF d3 _ (by decide)) (hJ d2 _ (by decide)) k15
    · exact h
  · rcases a16 with ⟨⟨d1, d2⟩, d3⟩ | h
    · exact k_Loa (hI _ _ d1) (hF d3 _ (by decide)) (hJ d2 _ (by decide)) k16
    · exact h
  · rcases b1 with d | h
    · exact k_Tap hu hv d kt
    · exact h
  · rcases b2 with ⟨h8, h9, d⟩ | h
    · exact k_Pst hu hv h8 h9 d kp
    · exact h
  · rcases b3 with d | h
    · exact k_Img hu hv h02 d ki
    · exact h
  · rcases b4 with d | h
    · exact k_Con ht hu hv d kc
    · exact h
/-! tables -/
theorem cell_in {I : MI} {t w n k : Nat} {c x : Int32} (hc : c = nn k) (hk : k < w) (hw : I t 0 = nn w) (hn : I t 3 = nn n) (hs : n * w + k < siz shT (t + 1)) (hb : n * w + k < 2 ^ 31) (hw2 : w < 2 ^ 31) : F_Table_cell t c x I = some ((), bup I (t + 1) (upd (I (t + 1)) (n * w + k) x)) := by
  subst hc
  unfold F_Table_cell
  rw [bn_rd, hw, ite_ap, if_pos ((nn_lt (by omega) hw2).mpr hk), bn_rd, bn_rd, hn, hw, nn_mul, nn_add, bn_sr _ _ (inR_nn hs hb), nn_nat hb]
  rfl
theorem cell_out {I : MI} {t w k : Nat} {c x : Int32} (hc : c = nn k) (hk : w ≤ k) (hk2 : k < 2 ^ 31) (hw : I t 0 = nn w) : F_Table_cell t c x I = some ((), I) := by
  subst hc
  unfold F_Table_cell
  rw [bn_rd, hw, ite_ap, if_neg (by rw [nn_lt hk2 (by omega)]; omega)]
  rfl
theorem full_no {I : MI} {t n r : Nat} (hn : I t 3 = nn n) (hr : I t 1 = nn r) (h : n < r) (hb : r < 2 ^ 31) : F_Table_isFull t I = some (0, I) := by
  unfold F_Table_isFull
  rw [bn_rd, bn_rd, hn, hr, ite_ap, if_pos ((nn_lt (by omega) hb).mpr h), bn_gdZ0]
  rfl
theorem full_yes {I : MI} {t n r : Nat} (hn : I t 3 = nn n) (hr : I t 1 = nn r) (h : r ≤ n) (hb : n < 2 ^ 31) : F_Table_isFull t I = some (1, I) := by
  unfold F_Table_isFull
  rw [bn_rd, bn_rd, hn, hr, ite_ap, if_neg (by rw [nn_lt hb (by omega)]; omega), bn_gdZ1]
  rfl
theorem put_full {I : MI} {t n r : Nat} {a b c d e : Int32} (hn : I t 3 = nn n) (hr : I t 1 = nn r) (h : r ≤ n) (hb : n < 2 ^ 31) : F_Table_putWide t a b c d e I = some (-1, I) := by
  unfold F_Table_putWide
  rw [bn_of (full_yes hn hr h hb), if_neg one_ne]
  rfl
/-- the cells of a line, as many as there are columns -/
def lnF (f : Nat → Int32) (w n : Nat) (a b c d e : Int32) : Nat → Int32 :=
  let f1 := upd f (n * w) a
  let f2 := if 1 < w then upd f1 (n * w + 1) b else f1
  let f3 := if 2 < w then upd f2 (n * w + 2) c else f2
  let f4 := if 3 < w then upd f3 (n * w + 3) d else f3
  if 4 < w then upd f4 (n * w + 4) e else f4
theorem put_ok {I : MI} {t w n r : Nat} {a b c d e : Int32} (hw : I t 0 = nn w) (hn : I t 3 = nn n) (hr : I t 1 = nn r) (h : n < r) (hs : siz shT (t + 1) = r * w) (hw0 : 0 < w) (hw5 : w ≤ 5) (hrb : r ≤ 1000) : F_Table_putWide t a b c d e I = some (nn (n + 1), bup (bup I (t + 1) (lnF (I (t + 1)) w n a b c d e)) t (upd (I t) 3 (nn (n + 1)))) := by
  have hle : n * w + w ≤ r * w := by
    have : (n + 1) * w ≤ r * w := Nat.mul_le_mul_right w h
    rw [Nat.add_mul, Nat.one_mul] at this
    exact this
  have hrw : r * w ≤ 5000 := by
    have : r * w ≤ 1000 * 5 := Nat.mul_le_mul hrb hw5
    exact this
  have hne : t ≠ t + 1 := by omega
  have st : ∀ (k : Nat) (x y : Int32) (J : MI), y = nn k → k < 5 → J t = I t → F_Table_cell t y x J = some ((), if k < w then bup J (t + 1) (upd (J (t + 1)) (n * w + k) x) else J) := by
    intro k x y J hy hk hJ
    by_cases hkw : k < w
    · rw [if_pos hkw]
      exact cell_in hy hkw (by rw [hJ]; exact hw) (by rw [hJ]; exact hn) (by rw [hs]; omega) (by omega) (by omega)
    · rw [if_neg hkw]
      exact cell_out (w := w) hy (by omega) (by omega) (by rw [hJ]; exact hw)
  have tt : ∀ (k : Nat) (g : Nat → Int32) (J : MI), J t = I t → (if k < w then bup J (t + 1) g else J) t = I t := by
    intro k g J hJ
    split
    · rw [bup_ne _ _ hne]; exact hJ
    · exact hJ
  unfold F_Table_putWide
  rw [bn_of (full_no hn hr h (by omega)), if_pos rfl, bn_of (st 0 a 0 I rfl (by decide) rfl)]
  have t1 := tt 0 (upd (I (t + 1)) (n * w + 0) a) I rfl
  generalize hJ1 : (if 0 < w then bup I (t + 1) (upd (I (t + 1)) (n * w + 0) a) else I) = J1 at t1
  rw [bn_of (st 1 b 1 J1 rfl (by decide) t1)]
  have t2 := tt 1 (upd (J1 (t + 1)) (n * w + 1) b) J1 t1
  generalize hJ2 : (if 1 < w then bup J1 (t + 1) (upd (J1 (t + 1)) (n * w + 1) b) else J1) = J2 at t2
  rw [bn_of (st 2 c 2 J2 rfl (by decide) t2)]
  have t3 := tt 2 (upd (J2 (t + 1)) (n * w + 2) c) J2 t2
  generalize hJ3 : (if 2 < w then bup J2 (t + 1) (upd (J2 (t + 1)) (n * w + 2) c) else J2) = J3 at t3
  rw [bn_of (st 3 d 3 J3 rfl (by decide) t3)]
  have t4 := tt 3 (upd (J3 (t + 1)) (n * w + 3) d) J3 t3
  generalize hJ4 : (if 3 < w then bup J3 (t + 1) (upd (J3 (t + 1)) (n * w + 3) d) else J3) = J4 at t4
  rw [bn_of (st 4 e 4 J4 rfl (by decide) t4)]
  have t5 := tt 4 (upd (J4 (t + 1)) (n * w + 4) e) J4 t4
  generalize hJ5 : (if 4 < w then bup J4 (t + 1) (upd (J4 (t + 1)) (n * w + 4) e) else J4) = J5 at t5
  rw [bn_rd, bn_wr, bn_rd, bup_eq, upd_eq, rt_ap, t5, hn, show (1 : Int32) = nn 1 from rfl, nn_add]
  congr 2
  funext q
  have e1 : J1 = bup I (t + 1) (upd (I (t + 1)) (n * w) a) := by rw [← hJ1, if_pos hw0]; rfl
  have bb : ∀ (f g : Nat → Int32), bup (bup I (t + 1) f) (t + 1) g = bup I (t + 1) g := by
    intro f g
    funext j
    by_cases hj : j = t + 1
    · subst hj; rw [bup_eq, bup_eq]
    · rw [bup_ne _ _ hj, bup_ne _ _ hj, bup_ne _ _ hj]
  have step : ∀ (k : Nat) (x : Int32) (f : Nat → Int32) (J K : MI), J = bup I (t + 1) f → (if k < w then bup J (t + 1) (upd (J (t + 1)) (n * w + k) x) else J) = K → K = bup I (t + 1) (if k < w then upd f (n * w + k) x else f) := by
    intro k x f J K hJ hK
    rw [← hK, hJ]
    by_cases hk : k < w
    · rw [if_pos hk, if_pos hk, bup_eq, bb]
    · rw [if_neg hk, if_neg hk]
  have e2 := step 1 b _ J1 J2 e1 hJ2
  have e3 := step 2 c _ J2 J3 e2 hJ3
  have e4 := step 3 d _ J3 J4 e3 hJ4
  have e5 := step 4 e _ J4 J5 e4 hJ5
  by_cases hq : q = t
  · subst hq; rw [bup_eq, bup_eq]
  · rw [bup_ne _ _ hq, bup_ne _ _ hq, e5]
    rfl
theorem put3 {I : MI} {t : Nat} {a b c : Int32} : F_Table_put t a b c I = F_Table_putWide t a b c 0 0 I := by
  unfold F_Table_put bn
  cases F_Table_putWide t a b c 0 0 I <;> rfl
theorem wipe_ok {I : MI} {t : Nat} : F_Table_wipe t I = some (0, bup I t (upd (I t) 3 0)) := by
  unfold F_Table_wipe
  rw [bn_wr, bn_rd, bup_eq, upd_eq]
  rfl
theorem at_ok {I : MI} {t w n i k : Nat} (hw : I t 0 = nn w) (hn : I t 3 = nn n) (hi : i < n) (hk : k < w) (hs : i * w + k < siz shT (t + 1)) (hb : i * w + k < 2 ^ 31) (hw2 : w < 2 ^ 31) (hn2 : n < 2 ^ 31) : F_Table_at t (nn i) (nn k) I = some (I (t + 1) (i * w + k), I) := by
  unfold F_Table_at
  rw [ite_ap, if_neg (nn_neg (by omega)), bn_rd, hn, ite_ap, if_pos ((nn_lt (by omega) hn2).mpr hi), ite_ap, if_neg (nn_neg (by omega)), bn_rd, hw, ite_ap, if_pos ((nn_lt (by omega) hw2).mpr hk), ite_ap, if_neg one_ne, bn_rd, hw, nn_mul, nn_add, bn_ld _ _ (inR_nn hs hb), nn_nat hb]
  rfl
end TBL
