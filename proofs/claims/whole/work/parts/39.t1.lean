/-! calls that tell tables -/
section TC1
theorem and_mp {a b : Bool} (h : (a && b) = true) : a = true ∧ b = true := by simpa using h
theorem ok_wipe {t : Nat} {I : MI} {Q : Int32 → MI → Prop} : Ok (F_Table_wipe t) I Q ↔ Q 0 (bup I t (upd (I t) 3 0)) := ok_eq wipe_ok
theorem ok_put {I : MI} {t w n r : Nat} {a b c : Int32} {Q : Int32 → MI → Prop} (hw : I t 0 = nn w) (hn : I t 3 = nn n) (hr : I t 1 = nn r) (h : n < r) (hs : siz shT (t + 1) = r * w) (hw0 : 0 < w) (hw5 : w ≤ 5) (hrb : r ≤ 1000) : Ok (F_Table_put t a b c) I Q ↔ Q (nn (n + 1)) (bup (bup I (t + 1) (lnF (I (t + 1)) w n a b c 0 0)) t (upd (I t) 3 (nn (n + 1)))) := ok_eq (put3.trans (put_ok hw hn hr h hs hw0 hw5 hrb))
theorem ok_putF {I : MI} {t n r : Nat} {a b c : Int32} {Q : Int32 → MI → Prop} (hn : I t 3 = nn n) (hr : I t 1 = nn r) (h : r ≤ n) (hb : n < 2 ^ 31) : Ok (F_Table_put t a b c) I Q ↔ Q (-1) I := ok_eq (put3.trans (put_full hn hr h hb))
theorem con_at {I J : MI} (h : bCon I J) {t w r : Nat} (hm : (t, w, r) ∈ tabC) : I t 0 = nn w ∧ I t 1 = nn r := h.1 (t, w, r) hm
theorem nn_ne {n k : Nat} (hn : n < 2 ^ 31) (hk : k < 2 ^ 31) (h : n ≠ k) : ¬ nn n = nn k := by
  rw [nn_inj hn hk]; exact h
theorem lnF1 {f : Nat → Int32} {n : Nat} {a b c d e : Int32} : lnF f 1 n a b c d e = upd f n a := by
  unfold lnF; simp
theorem lnF2 {f : Nat → Int32} {n : Nat} {a b c d e : Int32} : lnF f 2 n a b c d e = upd (upd f (2 * n) a) (2 * n + 1) b := by
  unfold lnF; simp [Nat.mul_comm]
theorem lnF3 {f : Nat → Int32} {n : Nat} {a b c d e : Int32} : lnF f 3 n a b c d e = upd (upd (upd f (3 * n) a) (3 * n + 1) b) (3 * n + 2) c := by
  unfold lnF; simp [Nat.mul_comm]
theorem is_st {x : Int32} : F_R_isStreet x = if x < 0 then rt 0 else if x < 10 then rt 1 else rt 0 := by
  unfold F_R_isStreet
  rw [gdZ0, gdZ1, bn_rt, bn_rt]
theorem st_in {v : Int32} (h1 : ¬ v < 0) (h2 : ¬ 9 < v) : F_R_isStreet v = rt 1 := by
  rw [is_st, if_neg h1, if_pos]
  rw [Int32.lt_iff_toInt_lt] at h2 ⊢
  have e1 : (9 : Int32).toInt = 9 := rfl
  have e2 : (10 : Int32).toInt = 10 := rfl
  omega
theorem st_out {v : Int32} (h : v < 0 ∨ 9 < v) : F_R_isStreet v = rt 0 := by
  rw [is_st]
  by_cases h1 : v < 0
  · rw [if_pos h1]
  · rw [if_neg h1, if_neg]
    have h2 := h.resolve_left h1
    rw [Int32.lt_iff_toInt_lt] at h2 ⊢
    have e1 : (9 : Int32).toInt = 9 := rfl
    have e2 : (10 : Int32).toInt = 10 := rfl
    omega
theorem rl_none {I I1 J J1 : MI} (l m f : List Nat) (hr : Rl I J) (hu : UI l I I1) (hv : UJ m f J J1) (ht : UT I I1) (h02 : I1 0 2 = I 0 2) (h08 : I1 0 8 = I 0 8) (h09 : I1 0 9 = I 0 9) (hd : ((noneIn l (List.range' 2 11) && noneIn (207 :: m) [208, 211, 212, 213, 214] && noneIn f [6, 7]) && ((noneIn l [14] && noneIn (207 :: m) [215]) && ((noneIn l (List.range' 16 4) && noneIn (207 :: m) [218, 219, 220, 221, 222, 223, 224]) && ((noneIn l (List.range' 21 2) && noneIn (207 :: m) [226] && noneIn f [36]) && ((noneIn l (2 :: List.range' 23 2) && noneIn (207 :: m) [227] && noneIn f [38]) && ((noneIn l (List.range' 25 2) && noneIn (207 :: m) [228] && noneIn f [40]) && ((noneIn l (List.range' 27 2) && noneIn (207 :: m) [231, 232] && noneIn f [44]) && ((noneIn l (List.range' 29 2) && noneIn (207 :: m) [235, 236] && noneIn f [49]) && ((noneIn l (List.range' 31 2) && noneIn (207 :: m) [238, 239, 240] && noneIn f [53]) && ((noneIn l (List.range' 33 2) && noneIn (207 :: m) [241] && noneIn f [57]) && ((noneIn l (List.range' 35 2) && noneIn (207 :: m) [242, 243]) && ((noneIn l (List.range' 37 2) && noneIn (207 :: m) [242, 243]) && ((noneIn l (List.range' 39 2) && noneIn (207 :: m) [244] && noneIn f [61]) && ((noneIn l (List.range' 41 2) && noneIn (207 :: m) [245, 246] && noneIn f [63]) && ((noneIn l (List.range' 43 2) && noneIn (207 :: m) [248] && noneIn f [67]) && ((noneIn l (List.range' 45 2) && noneIn (207 :: m) [250] && noneIn f [70]) && ((noneIn l [93, 106] && noneIn (207 :: m) [216] && noneIn f [14, 34, 35]) && ((noneIn l (List.range' 124 66) && noneIn (207 :: m) [209, 211, 212, 213, 214] && noneIn f [3, 6, 7]) && ((noneIn l (List.range' 48 45) && noneIn (207 :: m) [253] && noneIn f [75]) && (noneIn l [110, 122, 206] && noneIn (207 :: m) [217] && noneIn f [5])))))))))))))))))))) = true) : Rl I1 J1 := by
  obtain ⟨d1, hd⟩ := and_mp hd
  obtain ⟨d2, hd⟩ := and_mp hd
  obtain ⟨d3, hd⟩ := and_mp hd
  obtain ⟨d4, hd⟩ := and_mp hd
  obtain ⟨d5, hd⟩ := and_mp hd
  obtain ⟨d6, hd⟩ := and_mp hd
  obtain ⟨d7, hd⟩ := and_mp hd
  obtain ⟨d8, hd⟩ := and_mp hd
  obtain ⟨d9, hd⟩ := and_mp hd
  obtain ⟨d10, hd⟩ := and_mp hd
  obtain ⟨d11, hd⟩ := and_mp hd
  obtain ⟨d12, hd⟩ := and_mp hd
  obtain ⟨d13, hd⟩ := and_mp hd
  obtain ⟨d14, hd⟩ := and_mp hd
  obtain ⟨d15, hd⟩ := and_mp hd
  obtain ⟨d16, hd⟩ := and_mp hd
  obtain ⟨d17, hd⟩ := and_mp hd
  obtain ⟨d18, hd⟩ := and_mp hd
  obtain ⟨d19, hd⟩ := and_mp hd
  have d20 := hd
  exact rl_of hr hu hv ht h02 (Or.inl d1) (Or.inl d2) (Or.inl d3) (Or.inl d4) (Or.inl d5) (Or.inl d6) (Or.inl d7) (Or.inl d8) (Or.inl d9) (Or.inl d10) (Or.inl d11) (Or.inl d12) (Or.inl d13) (Or.inl d14) (Or.inl d15) (Or.inl d16) (Or.inl d17) (Or.inl ⟨h08, h09, d18⟩) (Or.inl d19) (Or.inl d20)
theorem rl_1 {I I1 J J1 : MI} (l m f : List Nat) (hr : Rl I J) (hu : UI l I I1) (hv : UJ m f J J1) (ht : UT I I1) (h02 : I1 0 2 = I 0 2) (h08 : I1 0 8 = I 0 8) (h09 : I1 0 9 = I 0 9) (n1 : bWor I1 2 J1) (hd : ((noneIn l [14] && noneIn (207 :: m) [215]) && ((noneIn l (List.range' 16 4) && noneIn (207 :: m) [218, 219, 220, 221, 222, 223, 224]) && ((noneIn l (List.range' 21 2) && noneIn (207 :: m) [226] && noneIn f [36]) && ((noneIn l (2 :: List.range' 23 2) && noneIn (207 :: m) [227] && noneIn f [38]) && ((noneIn l (List.range' 25 2) && noneIn (207 :: m) [228] && noneIn f [40]) && ((noneIn l (List.range' 27 2) && noneIn (207 :: m) [231, 232] && noneIn f [44]) && ((noneIn l (List.range' 29 2) && noneIn (207 :: m) [235, 236] && noneIn f [49]) && ((noneIn l (List.range' 31 2) && noneIn (207 :: m) [238, 239, 240] && noneIn f [53]) && ((noneIn l (List.range' 33 2) && noneIn (207 :: m) [241] && noneIn f [57]) && ((noneIn l (List.range' 35 2) && noneIn (207 :: m) [242, 243]) && ((noneIn l (List.range' 37 2) && noneIn (207 :: m) [242, 243]) && ((noneIn l (List.range' 39 2) && noneIn (207 :: m) [244] && noneIn f [61]) && ((noneIn l (List.range' 41 2) && noneIn (207 :: m) [245, 246] && noneIn f [63]) && ((noneIn l (List.range' 43 2) && noneIn (207 :: m) [248] && noneIn f [67]) && ((noneIn l (List.range' 45 2) && noneIn (207 :: m) [250] && noneIn f [70]) && ((noneIn l [93, 106] && noneIn (207 :: m) [216] && noneIn f [14, 34, 35]) && ((noneIn l (List.range' 124 66) && noneIn (207 :: m) [209, 211, 212, 213, 214] && noneIn f [3, 6, 7]) && ((noneIn l (List.range' 48 45) && noneIn (207 :: m) [253] && noneIn f [75]) && (noneIn l [110, 122, 206] && noneIn (207 :: m) [217] && noneIn f [5]))))))))))))))))))) = true) : Rl I1 J1 := by
  obtain ⟨d2, hd⟩ := and_mp hd
  obtain ⟨d3, hd⟩ := and_mp hd
  obtain ⟨d4, hd⟩ := and_mp hd
  obtain ⟨d5, hd⟩ := and_mp hd
  obtain ⟨d6, hd⟩ := and_mp hd
  obtain ⟨d7, hd⟩ := and_mp hd
  obtain ⟨d8, hd⟩ := and_mp hd
  obtain ⟨d9, hd⟩ := and_mp hd
  obtain ⟨d10, hd⟩ := and_mp hd
  obtain ⟨d11, hd⟩ := and_mp hd
  obtain ⟨d12, hd⟩ := and_mp hd
  obtain ⟨d13, hd⟩ := and_mp hd
  obtain ⟨d14, hd⟩ := and_mp hd
  obtain ⟨d15, hd⟩ := and_mp hd
  obtain ⟨d16, hd⟩ := and_mp hd
  obtain ⟨d17, hd⟩ := and_mp hd
  obtain ⟨d18, hd⟩ := and_mp hd
  obtain ⟨d19, hd⟩ := and_mp hd
  have d20 := hd
  exact rl_of hr hu hv ht h02 (Or.inr n1) (Or.inl d2) (Or.inl d3) (Or.inl d4) (Or.inl d5) (Or.inl d6) (Or.inl d7) (Or.inl d8) (Or.inl d9) (Or.inl d10) (Or.inl d11) (Or.inl d12) (Or.inl d13) (Or.inl d14) (Or.inl d15) (Or.inl d16) (Or.inl d17) (Or.inl ⟨h08, h09, d18⟩) (Or.inl d19) (Or.inl d20)
theorem rl_2 {I I1 J J1 : MI} (l m f : List Nat) (hr : Rl I J) (hu : UI l I I1) (hv : UJ m f J J1) (ht : UT I I1) (h02 : I1 0 2 = I 0 2) (h08 : I1 0 8 = I 0 8) (h09 : I1 0 9 = I 0 9) (n2 : bBk (I1 14) (J1 215)) (hd : ((noneIn l (List.range' 2 11) && noneIn (207 :: m) [208, 211, 212, 213, 214] && noneIn f [6, 7]) && ((noneIn l (List.range' 16 4) && noneIn (207 :: m) [218, 219, 220, 221, 222, 223, 224]) && ((noneIn l (List.range' 21 2) && noneIn (207 :: m) [226] && noneIn f [36]) && ((noneIn l (2 :: List.range' 23 2) && noneIn (207 :: m) [227] && noneIn f [38]) && ((noneIn l (List.range' 25 2) && noneIn (207 :: m) [228] && noneIn f [40]) && ((noneIn l (List.range' 27 2) && noneIn (207 :: m) [231, 232] && noneIn f [44]) && ((noneIn l (List.range' 29 2) && noneIn (207 :: m) [235, 236] && noneIn f [49]) && ((noneIn l (List.range' 31 2) && noneIn (207 :: m) [238, 239, 240] && noneIn f [53]) && ((noneIn l (List.range' 33 2) && noneIn (207 :: m) [241] && noneIn f [57]) && ((noneIn l (List.range' 35 2) && noneIn (207 :: m) [242, 243]) && ((noneIn l (List.range' 37 2) && noneIn (207 :: m) [242, 243]) && ((noneIn l (List.range' 39 2) && noneIn (207 :: m) [244] && noneIn f [61]) && ((noneIn l (List.range' 41 2) && noneIn (207 :: m) [245, 246] && noneIn f [63]) && ((noneIn l (List.range' 43 2) && noneIn (207 :: m) [248] && noneIn f [67]) && ((noneIn l (List.range' 45 2) && noneIn (207 :: m) [250] && noneIn f [70]) && ((noneIn l [93, 106] && noneIn (207 :: m) [216] && noneIn f [14, 34, 35]) && ((noneIn l (List.range' 124 66) && noneIn (207 :: m) [209, 211, 212, 213, 214] && noneIn f [3, 6, 7]) && ((noneIn l (List.range' 48 45) && noneIn (207 :: m) [253] && noneIn f [75]) && (noneIn l [110, 122, 206] && noneIn (207 :: m) [217] && noneIn f [5]))))))))))))))))))) = true) : Rl I1 J1 := by
  obtain ⟨d1, hd⟩ := and_mp hd
  obtain ⟨d3, hd⟩ := and_mp hd
  obtain ⟨d4, hd⟩ := and_mp hd
  obtain ⟨d5, hd⟩ := and_mp hd
  obtain ⟨d6, hd⟩ := and_mp hd
  obtain ⟨d7, hd⟩ := and_mp hd
  obtain ⟨d8, hd⟩ := and_mp hd
  obtain ⟨d9, hd⟩ := and_mp hd
  obtain ⟨d10, hd⟩ := and_mp hd
  obtain ⟨d11, hd⟩ := and_mp hd
  obtain ⟨d12, hd⟩ := and_mp hd
  obtain ⟨d13, hd⟩ := and_mp hd
  obtain ⟨d14, hd⟩ := and_mp hd
  obtain ⟨d15, hd⟩ := and_mp hd
  obtain ⟨d16, hd⟩ := and_mp hd
  obtain ⟨d17, hd⟩ := and_mp hd
  obtain ⟨d18, hd⟩ := and_mp hd
  obtain ⟨d19, hd⟩ := and_mp hd
  have d20 := hd
  exact rl_of hr hu hv ht h02 (Or.inl d1) (Or.inr n2) (Or.inl d3) (Or.inl d4) (Or.inl d5) (Or.inl d6) (Or.inl d7) (Or.inl d8) (Or.inl d9) (Or.inl d10) (Or.inl d11) (Or.inl d12) (Or.inl d13) (Or.inl d14) (Or.inl d15) (Or.inl d16) (Or.inl d17) (Or.inl ⟨h08, h09, d18⟩) (Or.inl d19) (Or.inl d20)
theorem rl_3 {I I1 J J1 : MI} (l m f : List Nat) (hr : Rl I J) (hu : UI l I I1) (hv : UJ m f J J1) (ht : UT I I1) (h02 : I1 0 2 = I 0 2) (h08 : I1 0 8 = I 0 8) (h09 : I1 0 9 = I 0 9) (n3 : bLaw I1 16 J1) (hd : ((noneIn l (List.range' 2 11) && noneIn (207 :: m) [208, 211, 212, 213, 214] && noneIn f [6, 7]) && ((noneIn l [14] && noneIn (207 :: m) [215]) && ((noneIn l (List.range' 21 2) && noneIn (207 :: m) [226] && noneIn f [36]) && ((noneIn l (2 :: List.range' 23 2) && noneIn (207 :: m) [227] && noneIn f [38]) && ((noneIn l (List.range' 25 2) && noneIn (207 :: m) [228] && noneIn f [40]) && ((noneIn l (List.range' 27 2) && noneIn (207 :: m) [231, 232] && noneIn f [44]) && ((noneIn l (List.range' 29 2) && noneIn (207 :: m) [235, 236] && noneIn f [49]) && ((noneIn l (List.range' 31 2) && noneIn (207 :: m) [238, 239, 240] && noneIn f [53]) && ((noneIn l (List.range' 33 2) && noneIn (207 :: m) [241] && noneIn f [57]) && ((noneIn l (List.range' 35 2) && noneIn (207 :: m) [242, 243]) && ((noneIn l (List.range' 37 2) && noneIn (207 :: m) [242, 243]) && ((noneIn l (List.range' 39 2) && noneIn (207 :: m) [244] && noneIn f [61]) && ((noneIn l (List.range' 41 2) && noneIn (207 :: m) [245, 246] && noneIn f [63]) && ((noneIn l (List.range' 43 2) && noneIn (207 :: m) [248] && noneIn f [67]) && ((noneIn l (List.range' 45 2) && noneIn (207 :: m) [250] && noneIn f [70]) && ((noneIn l [93, 106] && noneIn (207 :: m) [216] && noneIn f [14, 34, 35]) && ((noneIn l (List.range' 124 66) && noneIn (207 :: m) [209, 211, 212, 213, 214] && noneIn f [3, 6, 7]) && ((noneIn l (List.range' 48 45) && noneIn (207 :: m) [253] && noneIn f [75]) && (noneIn l [110, 122, 206] && noneIn (207 :: m) [217] && noneIn f [5]))))))))))))))))))) = true) : Rl I1 J1 := by
  obtain ⟨d1, hd⟩ := and_mp hd
  obtain ⟨d2, hd⟩ := and_mp hd
  obtain ⟨d4, hd⟩ := and_mp hd
  obtain ⟨d5, hd⟩ := and_mp hd
  obtain ⟨d6, hd⟩ := and_mp hd
  obtain ⟨d7, hd⟩ := and_mp hd
  obtain ⟨d8, hd⟩ := and_mp hd
  obtain ⟨d9, hd⟩ := and_mp hd
  obtain ⟨d10, hd⟩ := and_mp hd
  obtain ⟨d11, hd⟩ := and_mp hd
  obtain ⟨d12, hd⟩ := and_mp hd
  obtain ⟨d13, hd⟩ := and_mp hd
  obtain ⟨d14, hd⟩ := and_mp hd
  obtain ⟨d15, hd⟩ := and_mp hd
  obtain ⟨d16, hd⟩ := and_mp hd
  obtain ⟨d17, hd⟩ := and_mp hd
  obtain ⟨d18, hd⟩ := and_mp hd
  obtain ⟨d19, hd⟩ := and_mp hd
  have d20 := hd
  exact rl_of hr hu hv ht h02 (Or.inl d1) (Or.inl d2) (Or.inr n3) (Or.inl d4) (Or.inl d5) (Or.inl d6) (Or.inl d7) (Or.inl d8) (Or.inl d9) (Or.inl d10) (Or.inl d11) (Or.inl d12) (Or.inl d13) (Or.inl d14) (Or.inl d15) (Or.inl d16) (Or.inl d17) (Or.inl ⟨h08, h09, d18⟩) (Or.inl d19) (Or.inl d20)
theorem rl_4 {I I1 J J1 : MI} (l m f : List Nat) (hr : Rl I J) (hu : UI l I I1) (hv : UJ m f J J1) (ht : UT I I1) (h02 : I1 0 2 = I 0 2) (h08 : I1 0 8 = I 0 8) (h09 : I1 0 9 = I 0 9) (n4 : bSha I1 21 J1) (hd : ((noneIn l (List.range' 2 11) && noneIn (207 :: m) [208, 211, 212, 213, 214] && noneIn f [6, 7]) && ((noneIn l [14] && noneIn (207 :: m) [215]) && ((noneIn l (List.range' 16 4) && noneIn (207 :: m) [218, 219, 220, 221, 222, 223, 224]) && ((noneIn l (2 :: List.range' 23 2) && noneIn (207 :: m) [227] && noneIn f [38]) && ((noneIn l (List.range' 25 2) && noneIn (207 :: m) [228] && noneIn f [40]) && ((noneIn l (List.range' 27 2) && noneIn (207 :: m) [231, 232] && noneIn f [44]) && ((noneIn l (List.range' 29 2) && noneIn (207 :: m) [235, 236] && noneIn f [49]) && ((noneIn l (List.range' 31 2) && noneIn (207 :: m) [238, 239, 240] && noneIn f [53]) && ((noneIn l (List.range' 33 2) && noneIn (207 :: m) [241] && noneIn f [57]) && ((noneIn l (List.range' 35 2) && noneIn (207 :: m) [242, 243]) && ((noneIn l (List.range' 37 2) && noneIn (207 :: m) [242, 243]) && ((noneIn l (List.range' 39 2) && noneIn (207 :: m) [244] && noneIn f [61]) && ((noneIn l (List.range' 41 2) && noneIn (207 :: m) [245, 246] && noneIn f [63]) && ((noneIn l (List.range' 43 2) && noneIn (207 :: m) [248] && noneIn f [67]) && ((noneIn l (List.range' 45 2) && noneIn (207 :: m) [250] && noneIn f [70]) && ((noneIn l [93, 106] && noneIn (207 :: m) [216] && noneIn f [14, 34, 35]) && ((noneIn l (List.range' 124 66) && noneIn (207 :: m) [209, 211, 212, 213, 214] && noneIn f [3, 6, 7]) && ((noneIn l (List.range' 48 45) && noneIn (207 :: m) [253] && noneIn f [75]) && (noneIn l [110, 122, 206] && noneIn (207 :: m) [217] && noneIn f [5]))))))))))))))))))) = true) : Rl I1 J1 := by
  obtain ⟨d1, hd⟩ := and_mp hd
  obtain ⟨d2, hd⟩ := and_mp hd
  obtain ⟨d3, hd⟩ := and_mp hd
  obtain ⟨d5, hd⟩ := and_mp hd
  obtain ⟨d6, hd⟩ := and_mp hd
  obtain ⟨d7, hd⟩ := and_mp hd
  obtain ⟨d8, hd⟩ := and_mp hd
  obtain ⟨d9, hd⟩ := and_mp hd
  obtain ⟨d10, hd⟩ := and_mp hd
  obtain ⟨d11, hd⟩ := and_mp hd
  obtain ⟨d12, hd⟩ := and_mp hd
  obtain ⟨d13, hd⟩ := and_mp hd
  obtain ⟨d14, hd⟩ := and_mp hd
  obtain ⟨d15, hd⟩ := and_mp hd
  obtain ⟨d16, hd⟩ := and_mp hd
  obtain ⟨d17, hd⟩ := and_mp hd
  obtain ⟨d18, hd⟩ := and_mp hd
  obtain ⟨d19, hd⟩ := and_mp hd
  have d20 := hd
  exact rl_of hr hu hv ht h02 (Or.inl d1) (Or.inl d2) (Or.inl d3) (Or.inr n4) (Or.inl d5) (Or.inl d6) (Or.inl d7) (Or.inl d8) (Or.inl d9) (Or.inl d10) (Or.inl d11) (Or.inl d12) (Or.inl d13) (Or.inl d14) (Or.inl d15) (Or.inl d16) (Or.inl d17) (Or.inl ⟨h08, h09, d18⟩) (Or.inl d19) (Or.inl d20)
theorem rl_5 {I I1 J J1 : MI} (l m f : List Nat) (hr : Rl I J) (hu : UI l I I1) (hv : UJ m f J J1) (ht : UT I I1) (h02 : I1 0 2 = I 0 2) (h08 : I1 0 8 = I 0 8) (h09 : I1 0 9 = I 0 9) (n5 : bDia I1 23 2 J1) (hd : ((noneIn l (List.range' 2 11) && noneIn (207 :: m) [208, 211, 212, 213, 214] && noneIn f [6, 7]) && ((noneIn l [14] && noneIn (207 :: m) [215]) && ((noneIn l (List.range' 16 4) && noneIn (207 :: m) [218, 219, 220, 221, 222, 223, 224]) && ((noneIn l (List.range' 21 2) && noneIn (207 :: m) [226] && noneIn f [36]) && ((noneIn l (List.range' 25 2) && noneIn (207 :: m) [228] && noneIn f [40]) && ((noneIn l (List.range' 27 2) && noneIn (207 :: m) [231, 232] && noneIn f [44]) && ((noneIn l (List.range' 29 2) && noneIn (207 :: m) [235, 236] && noneIn f [49]) && ((noneIn l (List.range' 31 2) && noneIn (207 :: m) [238, 239, 240] && noneIn f [53]) && ((noneIn l (List.range' 33 2) && noneIn (207 :: m) [241] && noneIn f [57]) && ((noneIn l (List.range' 35 2) && noneIn (207 :: m) [242, 243]) && ((noneIn l (List.range' 37 2) && noneIn (207 :: m) [242, 243]) && ((noneIn l (List.range' 39 2) && noneIn (207 :: m) [244] && noneIn f [61]) && ((noneIn l (List.range' 41 2) && noneIn (207 :: m) [245, 246] && noneIn f [63]) && ((noneIn l (List.range' 43 2) && noneIn (207 :: m) [248] && noneIn f [67]) && ((noneIn l (List.range' 45 2) && noneIn (207 :: m) [250] && noneIn f [70]) && ((noneIn l [93, 106] && noneIn (207 :: m) [216] && noneIn f [14, 34, 35]) && ((noneIn l (List.range' 124 66) && noneIn (207 :: m) [209, 211, 212, 213, 214] && noneIn f [3, 6, 7]) && ((noneIn l (List.range' 48 45) && noneIn (207 :: m) [253] && noneIn f [75]) && (noneIn l [110, 122, 206] && noneIn (207 :: m) [217] && noneIn f [5]))))))))))))))))))) = true) : Rl I1 J1 := by
  obtain ⟨d1, hd⟩ := and_mp hd
  obtain ⟨d2, hd⟩ := and_mp hd
  obtain ⟨d3, hd⟩ := and_mp hd
  obtain ⟨d4, hd⟩ := and_mp hd
  obtain ⟨d6, hd⟩ := and_mp hd
  obtain ⟨d7, hd⟩ := and_mp hd
  obtain ⟨d8, hd⟩ := and_mp hd
  obtain ⟨d9, hd⟩ := and_mp hd
  obtain ⟨d10, hd⟩ := and_mp hd
  obtain ⟨d11, hd⟩ := and_mp hd
  obtain ⟨d12, hd⟩ := and_mp hd
  obtain ⟨d13, hd⟩ := and_mp hd
  obtain ⟨d14, hd⟩ := and_mp hd
  obtain ⟨d15, hd⟩ := and_mp hd
  obtain ⟨d16, hd⟩ := and_mp hd
  obtain ⟨d17, hd⟩ := and_mp hd
  obtain ⟨d18, hd⟩ := and_mp hd
  obtain ⟨d19, hd⟩ := and_mp hd
  have d20 := hd
  exact rl_of hr hu hv ht h02 (Or.inl d1) (Or.inl d2) (Or.inl d3) (Or.inl d4) (Or.inr n5) (Or.inl d6) (Or.inl d7) (Or.inl d8) (Or.inl d9) (Or.inl d10) (Or.inl d11) (Or.inl d12) (Or.inl d13) (Or.inl d14) (Or.inl d15) (Or.inl d16) (Or.inl d17) (Or.inl ⟨h08, h09, d18⟩) (Or.inl d19) (Or.inl d20)
theorem rl_6 {I I1 J J1 : MI} (l m f : List Nat) (hr : Rl I J) (hu : UI l I I1) (hv : UJ m f J J1) (ht : UT I I1) (h02 : I1 0 2 = I 0 2) (h08 : I1 0 8 = I 0 8) (h09 : I1 0 9 = I 0 9) (n6 : bWay I1 25 J1) (hd : ((noneIn l (List.range' 2 11) && noneIn (207 :: m) [208, 211, 212, 213, 214] && noneIn f [6, 7]) && ((noneIn l [14] && noneIn (207 :: m) [215]) && ((noneIn l (List.range' 16 4) && noneIn (207 :: m) [218, 219, 220, 221, 222, 223, 224]) && ((noneIn l (List.range' 21 2) && noneIn (207 :: m) [226] && noneIn f [36]) && ((noneIn l (2 :: List.range' 23 2) && noneIn (207 :: m) [227] && noneIn f [38]) && ((noneIn l (List.range' 27 2) && noneIn (207 :: m) [231, 232] && noneIn f [44]) && ((noneIn l (List.range' 29 2) && noneIn (207 :: m) [235, 236] && noneIn f [49]) && ((noneIn l (List.range' 31 2) && noneIn (207 :: m) [238, 239, 240] && noneIn f [53]) && ((noneIn l (List.range' 33 2) && noneIn (207 :: m) [241] && noneIn f [57]) && ((noneIn l (List.range' 35 2) && noneIn (207 :: m) [242, 243]) && ((noneIn l (List.range' 37 2) && noneIn (207 :: m) [242, 243]) && ((noneIn l (List.range' 39 2) && noneIn (207 :: m) [244] && noneIn f [61]) && ((noneIn l (List.range' 41 2) && noneIn (207 :: m) [245, 246] && noneIn f [63]) && ((noneIn l (List.range' 43 2) && noneIn (207 :: m) [248] && noneIn f [67]) && ((noneIn l (List.range' 45 2) && noneIn (207 :: m) [250] && noneIn f [70]) && ((noneIn l [93, 106] && noneIn (207 :: m) [216] && noneIn f [14, 34, 35]) && ((noneIn l (List.range' 124 66) && noneIn (207 :: m) [209, 211, 212, 213, 214] && noneIn f [3, 6, 7]) && ((noneIn l (List.range' 48 45) && noneIn (207 :: m) [253] && noneIn f [75]) && (noneIn l [110, 122, 206] && noneIn (207 :: m) [217] && noneIn f [5]))))))))))))))))))) = true) : Rl I1 J1 := by
  obtain ⟨d1, hd⟩ := and_mp hd
  obtain ⟨d2, hd⟩ := and_mp hd
  obtain ⟨d3, hd⟩ := and_mp hd
  obtain ⟨d4, hd⟩ := and_mp hd
  obtain ⟨d5, hd⟩ := and_mp hd
  obtain ⟨d7, hd⟩ := and_mp hd
  obtain ⟨d8, hd⟩ := and_mp hd
  obtain ⟨d9, hd⟩ := and_mp hd
  obtain ⟨d10, hd⟩ := and_mp hd
  obtain ⟨d11, hd⟩ := and_mp hd
  obtain ⟨d12, hd⟩ := and_mp hd
  obtain ⟨d13, hd⟩ := and_mp hd
  obtain ⟨d14, hd⟩ := and_mp hd
  obtain ⟨d15, hd⟩ := and_mp hd
  obtain ⟨d16, hd⟩ := and_mp hd
  obtain ⟨d17, hd⟩ := and_mp hd
  obtain ⟨d18, hd⟩ := and_mp hd
  obtain ⟨d19, hd⟩ := and_mp hd
  have d20 := hd
  exact rl_of hr hu hv ht h02 (Or.inl d1) (Or.inl d2) (Or.inl d3) (Or.inl d4) (Or.inl d5) (Or.inr n6) (Or.inl d7) (Or.inl d8) (Or.inl d9) (Or.inl d10) (Or.inl d11) (Or.inl d12) (Or.inl d13) (Or.inl d14) (Or.inl d15) (Or.inl d16) (Or.inl d17) (Or.inl ⟨h08, h09, d18⟩) (Or.inl d19) (Or.inl d20)
theorem rl_7 {I I1 J J1 : MI} (l m f : List Nat) (hr : Rl I J) (hu : UI l I I1) (hv : UJ m f J J1) (ht : UT I I1) (h02 : I1 0 2 = I 0 2) (h08 : I1 0 8 = I 0 8) (h09 : I1 0 9 = I 0 9) (n7 : bSig I1 27 J1) (hd : ((noneIn l (List.range' 2 11) && noneIn (207 :: m) [208, 211, 212, 213, 214] && noneIn f [6, 7]) && ((noneIn l [14] && noneIn (207 :: m) [215]) && ((noneIn l (List.range' 16 4) && noneIn (207 :: m) [218, 219, 220, 221, 222, 223, 224]) && ((noneIn l (List.range' 21 2) && noneIn (207 :: m) [226] && noneIn f [36]) && ((noneIn l (2 :: List.range' 23 2) && noneIn (207 :: m) [227] && noneIn f [38]) && ((noneIn l (List.range' 25 2) && noneIn (207 :: m) [228] && noneIn f [40]) && ((noneIn l (List.range' 29 2) && noneIn (207 :: m) [235, 236] && noneIn f [49]) && ((noneIn l (List.range' 31 2) && noneIn (207 :: m) [238, 239, 240] && noneIn f [53]) && ((noneIn l (List.range' 33 2) && noneIn (207 :: m) [241] && noneIn f [57]) && ((noneIn l (List.range' 35 2) && noneIn (207 :: m) [242, 243]) && ((noneIn l (List.range' 37 2) && noneIn (207 :: m) [242, 243]) && ((noneIn l (List.range' 39 2) && noneIn (207 :: m) [244] && noneIn f [61]) && ((noneIn l (List.range' 41 2) && noneIn (207 :: m) [245, 246] && noneIn f [63]) && ((noneIn l (List.range' 43 2) && noneIn (207 :: m) [248] && noneIn f [67]) && ((noneIn l (List.range' 45 2) && noneIn (207 :: m) [250] && noneIn f [70]) && ((noneIn l [93, 106] && noneIn (207 :: m) [216] && noneIn f [14, 34, 35]) && ((noneIn l (List.range' 124 66) && noneIn (207 :: m) [209, 211, 212, 213, 214] && noneIn f [3, 6, 7]) && ((noneIn l (List.range' 48 45) && noneIn (207 :: m) [253] && noneIn f [75]) && (noneIn l [110, 122, 206] && noneIn (207 :: m) [217] && noneIn f [5]))))))))))))))))))) = true) : Rl I1 J1 := by
  obtain ⟨d1, hd⟩ := and_mp hd
  obtain ⟨d2, hd⟩ := and_mp hd
  obtain ⟨d3, hd⟩ := and_mp hd
  obtain ⟨d4, hd⟩ := and_mp hd
  obtain ⟨d5, hd⟩ := and_mp hd
  obtain ⟨d6, hd⟩ := and_mp hd
  obtain ⟨d8, hd⟩ := and_mp hd
  obtain ⟨d9, hd⟩ := and_mp hd
  obtain ⟨d10, hd⟩ := and_mp hd
  obtain ⟨d11, hd⟩ := and_mp hd
  obtain ⟨d12, hd⟩ := and_mp hd
  obtain ⟨d13, hd⟩ := and_mp hd
  obtain ⟨d14, hd⟩ := and_mp hd
  obtain ⟨d15, hd⟩ := and_mp hd
  obtain ⟨d16, hd⟩ := and_mp hd
  obtain ⟨d17, hd⟩ := and_mp hd
  obtain ⟨d18, hd⟩ := and_mp hd
  obtain ⟨d19, hd⟩ := and_mp hd
  have d20 := hd
  exact rl_of hr hu hv ht h02 (Or.inl d1) (Or.inl d2) (Or.inl d3) (Or.inl d4) (Or.inl d5) (Or.inl d6) (Or.inr n7) (Or.inl d8) (Or.inl d9) (Or.inl d10) (Or.inl d11) (Or.inl d12) (Or.inl d13) (Or.inl d14) (Or.inl d15) (Or.inl d16) (Or.inl d17) (Or.inl ⟨h08, h09, d18⟩) (Or.inl d19) (Or.inl d20)
theorem rl_8 {I I1 J J1 : MI} (l m f : List Nat) (hr : Rl I J) (hu : UI l I I1) (hv : UJ m f J J1) (ht : UT I I1) (h02 : I1 0 2 = I 0 2) (h08 : I1 0 8 = I 0 8) (h09 : I1 0 9 = I 0 9) (n8 : bPai I1 29 J1) (hd : ((noneIn l (List.range' 2 11) && noneIn (207 :: m) [208, 211, 212, 213, 214] && noneIn f [6, 7]) && ((noneIn l [14] && noneIn (207 :: m) [215]) && ((noneIn l (List.range' 16 4) && noneIn (207 :: m) [218, 219, 220, 221, 222, 223, 224]) && ((noneIn l (List.range' 21 2) && noneIn (207 :: m) [226] && noneIn f [36]) && ((noneIn l (2 :: List.range' 23 2) && noneIn (207 :: m) [227] && noneIn f [38]) && ((noneIn l (List.range' 25 2) && noneIn (207 :: m) [228] && noneIn f [40]) && ((noneIn l (List.range' 27 2) && noneIn (207 :: m) [231, 232] && noneIn f [44]) && ((noneIn l (List.range' 31 2) && noneIn (207 :: m) [238, 239, 240] && noneIn f [53]) && ((noneIn l (List.range' 33 2) && noneIn (207 :: m) [241] && noneIn f [57]) && ((noneIn l (List.range' 35 2) && noneIn (207 :: m) [242, 243]) && ((noneIn l (List.range' 37 2) && noneIn (207 :: m) [242, 243]) && ((noneIn l (List.range' 39 2) && noneIn (207 :: m) [244] && noneIn f [61]) && ((noneIn l (List.range' 41 2) && noneIn (207 :: m) [245, 246] && noneIn f [63]) && ((noneIn l (List.range' 43 2) && noneIn (207 :: m) [248] && noneIn f [67]) && ((noneIn l (List.range' 45 2) && noneIn (207 :: m) [250] && noneIn f [70]) && ((noneIn l [93, 106] && noneIn (207 :: m) [216] && noneIn f [14, 34, 35]) && ((noneIn l (List.range' 124 66) && noneIn (207 :: m) [209, 211, 212, 213, 214] && noneIn f [3, 6, 7]) && ((noneIn l (List.range' 48 45) && noneIn (207 :: m) [253] && noneIn f [75]) && (noneIn l [110, 122, 206] && noneIn (207 :: m) [217] && noneIn f [5]))))))))))))))))))) = true) : Rl I1 J1 := by
  obtain ⟨d1, hd⟩ := and_mp hd
  obtain ⟨d2, hd⟩ := and_mp hd
  obtain ⟨d3, hd⟩ := and_mp hd
  obtain ⟨d4, hd⟩ := and_mp hd
  obtain ⟨d5, hd⟩ := and_mp hd
  obtain ⟨d6, hd⟩ := and_mp hd
  obtain ⟨d7, hd⟩ := and_mp hd
  obtain ⟨d9, hd⟩ := and_mp hd
  obtain ⟨d10, hd⟩ := and_mp hd
  obtain ⟨d11, hd⟩ := and_mp hd
  obtain ⟨d12, hd⟩ := and_mp hd
  obtain ⟨d13, hd⟩ := and_mp hd
  obtain ⟨d14, hd⟩ := and_mp hd
  obtain ⟨d15, hd⟩ := and_mp hd
  obtain ⟨d16, hd⟩ := and_mp hd
  obtain ⟨d17, hd⟩ := and_mp hd
  obtain ⟨d18, hd⟩ := and_mp hd
  obtain ⟨d19, hd⟩ := and_mp hd
  have d20 := hd
  exact rl_of hr hu hv ht h02 (Or.inl d1) (Or.inl d2) (Or.inl d3) (Or.inl d4) (Or.inl d5) (Or.inl d6) (Or.inl d7) (Or.inr n8) (Or.inl d9) (Or.inl d10) (Or.inl d11) (Or.inl d12) (Or.inl d13) (Or.inl d14) (Or.inl d15) (Or.inl d16) (Or.inl d17) (Or.inl ⟨h08, h09, d18⟩) (Or.inl d19) (Or.inl d20)
theorem rl_9 {I I1 J J1 : MI} (l m f : List Nat) (hr : Rl I J) (hu : UI l I I1) (hv : UJ m f J J1) (ht : UT I I1) (h02 : I1 0 2 = I 0 2) (h08 : I1 0 8 = I 0 8) (h09 : I1 0 9 = I 0 9) (n9 : bWrd I1 31 J1) (hd : ((noneIn l (List.range' 2 11) && noneIn (207 :: m) [208, 211, 212, 213, 214] && noneIn f [6, 7]) && ((noneIn l [14] && noneIn (207 :: m) [215]) && ((noneIn l (List.range' 16 4) && noneIn (207 :: m) [218, 219, 220, 221, 222, 223, 224]) && ((noneIn l (List.range' 21 2) && noneIn (207 :: m) [226] && noneIn f [36]) && ((noneIn l (2 :: List.range' 23 2) && noneIn (207 :: m) [227] && noneIn f [38]) && ((noneIn l (List.range' 25 2) && noneIn (207 :: m) [228] && noneIn f [40]) && ((noneIn l (List.range' 27 2) && noneIn (207 :: m) [231, 232] && noneIn f [44]) && ((noneIn l (List.range' 29 2) && noneIn (207 :: m) [235, 236] && noneIn f [49]) && ((noneIn l (List.range' 33 2) && noneIn (207 :: m) [241] && noneIn f [57]) && ((noneIn l (List.range' 35 2) && noneIn (207 :: m) [242, 243]) && ((noneIn l (List.range' 37 2) && noneIn (207 :: m) [242, 243]) && ((noneIn l (List.range' 39 2) && noneIn (207 :: m) [244] && noneIn f [61]) && ((noneIn l (List.range' 41 2) && noneIn (207 :: m) [245, 246] && noneIn f [63]) && ((noneIn l (List.range' 43 2) && noneIn (207 :: m) [248] && noneIn f [67]) && ((noneIn l (List.range' 45 2) && noneIn (207 :: m) [250] && noneIn f [70]) && ((noneIn l [93, 106] && noneIn (207 :: m) [216] && noneIn f [14, 34, 35]) && ((noneIn l (List.range' 124 66) && noneIn (207 :: m) [209, 211, 212, 213, 214] && noneIn f [3, 6, 7]) && ((noneIn l (List.range' 48 45) && noneIn (207 :: m) [253] && noneIn f [75]) && (noneIn l [110, 122, 206] && noneIn (207 :: m) [217] && noneIn f [5]))))))))))))))))))) = true) : Rl I1 J1 := by
  obtain ⟨d1, hd⟩ := and_mp hd
  obtain ⟨d2, hd⟩ := and_mp hd
  obtain ⟨d3, hd⟩ := and_mp hd
  obtain ⟨d4, hd⟩ := and_mp hd
  obtain ⟨d5, hd⟩ := and_mp hd
  obtain ⟨d6, hd⟩ := and_mp hd
  obtain ⟨d7, hd⟩ := and_mp hd
  obtain ⟨d8, hd⟩ := and_mp hd
  obtain ⟨d10, hd⟩ := and_mp hd
  obtain ⟨d11, hd⟩ := and_mp hd
  obtain ⟨d12, hd⟩ := and_mp hd
  obtain ⟨d13, hd⟩ := and_mp hd
  obtain ⟨d14, hd⟩ := and_mp hd
  obtain ⟨d15, hd⟩ := and_mp hd
  obtain ⟨d16, hd⟩ := and_mp hd
  obtain ⟨d17, hd⟩ := and_mp hd
  obtain ⟨d18, hd⟩ := and_mp hd
  obtain ⟨d19, hd⟩ := and_mp hd
  have d20 := hd
  exact rl_of hr hu hv ht h02 (Or.inl d1) (Or.inl d2) (Or.inl d3) (Or.inl d4) (Or.inl d5) (Or.inl d6) (Or.inl d7) (Or.inl d8) (Or.inr n9) (Or.inl d10) (Or.inl d11) (Or.inl d12) (Or.inl d13) (Or.inl d14) (Or.inl d15) (Or.inl d16) (Or.inl d17) (Or.inl ⟨h08, h09, d18⟩) (Or.inl d19) (Or.inl d20)
theorem rl_10 {I I1 J J1 : MI} (l m f : List Nat) (hr : Rl I J) (hu : UI l I I1) (hv : UJ m f J J1) (ht : UT I I1) (h02 : I1 0 2 = I 0 2) (h08 : I1 0 8 = I 0 8) (h09 : I1 0 9 = I 0 9) (n10 : bVot I1 33 J1) (hd : ((noneIn l (List.range' 2 11) && noneIn (207 :: m) [208, 211, 212, 213, 214] && noneIn f [6, 7]) && ((noneIn l [14] && noneIn (207 :: m) [215]) && ((noneIn l (List.range' 16 4) && noneIn (207 :: m) [218, 219, 220, 221, 222, 223, 224]) && ((noneIn l (List.range' 21 2) && noneIn (207 :: m) [226] && noneIn f [36]) && ((noneIn l (2 :: List.range' 23 2) && noneIn (207 :: m) [227] && noneIn f [38]) && ((noneIn l (List.range' 25 2) && noneIn (207 :: m) [228] && noneIn f [40]) && ((noneIn l (List.range' 27 2) && noneIn (207 :: m) [231, 232] && noneIn f [44]) && ((noneIn l (List.range' 29 2) && noneIn (207 :: m) [235, 236] && noneIn f [49]) && ((noneIn l (List.range' 31 2) && noneIn (207 :: m) [238, 239, 240] && noneIn f [53]) && ((noneIn l (List.range' 35 2) && noneIn (207 :: m) [242, 243]) && ((noneIn l (List.range' 37 2) && noneIn (207 :: m) [242, 243]) && ((noneIn l (List.range' 39 2) && noneIn (207 :: m) [244] && noneIn f [61]) && ((noneIn l (List.range' 41 2) && noneIn (207 :: m) [245, 246] && noneIn f [63]) && ((noneIn l (List.range' 43 2) && noneIn (207 :: m) [248] && noneIn f [67]) && ((noneIn l (List.range' 45 2) && noneIn (207 :: m) [250] && noneIn f [70]) && ((noneIn l [93, 106] && noneIn (207 :: m) [216] && noneIn f [14, 34, 35]) && ((noneIn l (List.range' 124 66) && noneIn (207 :: m) [209, 211, 212, 213, 214] && noneIn f [3, 6, 7]) && ((noneIn l (List.range' 48 45) && noneIn (207 :: m) [253] && noneIn f [75]) && (noneIn l [110, 122, 206] && noneIn (207 :: m) [217] && noneIn f [5]))))))))))))))))))) = true) : Rl I1 J1 := by
  obtain ⟨d1, hd⟩ := and_mp hd
  obtain ⟨d2, hd⟩ := and_mp hd
  obtain ⟨d3, hd⟩ := and_mp hd
  obtain ⟨d4, hd⟩ := and_mp hd
  obtain ⟨d5, hd⟩ := and_mp hd
  obtain ⟨d6, hd⟩ := and_mp hd
  obtain ⟨d7, hd⟩ := and_mp hd
  obtain ⟨d8, hd⟩ := and_mp hd
  obtain ⟨d9, hd⟩ := and_mp hd
  obtain ⟨d11, hd⟩ := and_mp hd
  obtain ⟨d12, hd⟩ := and_mp hd
  obtain ⟨d13, hd⟩ := and_mp hd
  obtain ⟨d14, hd⟩ := and_mp hd
  obtain ⟨d15, hd⟩ := and_mp hd
  obtain ⟨d16, hd⟩ := and_mp hd
  obtain ⟨d17, hd⟩ := and_mp hd
  obtain ⟨d18, hd⟩ := and_mp hd
  obtain ⟨d19, hd⟩ := and_mp hd
  have d20 := hd
  exact rl_of hr hu hv ht h02 (Or.inl d1) (Or.inl d2) (Or.inl d3) (Or.inl d4) (Or.inl d5) (Or.inl d6) (Or.inl d7) (Or.inl d8) (Or.inl d9) (Or.inr n10) (Or.inl d11) (Or.inl d12) (Or.inl d13) (Or.inl d14) (Or.inl d15) (Or.inl d16) (Or.inl d17) (Or.inl ⟨h08, h09, d18⟩) (Or.inl d19) (Or.inl d20)
theorem rl_11 {I I1 J J1 : MI} (l m f : List Nat) (hr : Rl I J) (hu : UI l I I1) (hv : UJ m f J J1) (ht : UT I I1) (h02 : I1 0 2 = I 0 2) (h08 : I1 0 8 = I 0 8) (h09 : I1 0 9 = I 0 9) (n11 : bNot I1 35 0 J1) (hd : ((noneIn l (List.range' 2 11) && noneIn (207 :: m) [208, 211, 212, 213, 214] && noneIn f [6, 7]) && ((noneIn l [14] && noneIn (207 :: m) [215]) && ((noneIn l (List.range' 16 4) && noneIn (207 :: m) [218, 219, 220, 221, 222, 223, 224]) && ((noneIn l (List.range' 21 2) && noneIn (207 :: m) [226] && noneIn f [36]) && ((noneIn l (2 :: List.range' 23 2) && noneIn (207 :: m) [227] && noneIn f [38]) && ((noneIn l (List.range' 25 2) && noneIn (207 :: m) [228] && noneIn f [40]) && ((noneIn l (List.range' 27 2) && noneIn (207 :: m) [231, 232] && noneIn f [44]) && ((noneIn l (List.range' 29 2) && noneIn (207 :: m) [235, 236] && noneIn f [49]) && ((noneIn l (List.range' 31 2) && noneIn (207 :: m) [238, 239, 240] && noneIn f [53]) && ((noneIn l (List.range' 33 2) && noneIn (207 :: m) [241] && noneIn f [57]) && ((noneIn l (List.range' 37 2) && noneIn (207 :: m) [242, 243]) && ((noneIn l (List.range' 39 2) && noneIn (207 :: m) [244] && noneIn f [61]) && ((noneIn l (List.range' 41 2) && noneIn (207 :: m) [245, 246] && noneIn f [63]) && ((noneIn l (List.range' 43 2) && noneIn (207 :: m) [248] && noneIn f [67]) && ((noneIn l (List.range' 45 2) && noneIn (207 :: m) [250] && noneIn f [70]) && ((noneIn l [93, 106] && noneIn (207 :: m) [216] && noneIn f [14, 34, 35]) && ((noneIn l (List.range' 124 66) && noneIn (207 :: m) [209, 211, 212, 213, 214] && noneIn f [3, 6, 7]) && ((noneIn l (List.range' 48 45) && noneIn (207 :: m) [253] && noneIn f [75]) && (noneIn l [110, 122, 206] && noneIn (207 :: m) [217] && noneIn f [5]))))))))))))))))))) = true) : Rl I1 J1 := by
  obtain ⟨d1, hd⟩ := and_mp hd
  obtain ⟨d2, hd⟩ := and_mp hd
  obtain ⟨d3, hd⟩ := and_mp hd
  obtain ⟨d4, hd⟩ := and_mp hd
  obtain ⟨d5, hd⟩ := and_mp hd
  obtain ⟨d6, hd⟩ := and_mp hd
  obtain ⟨d7, hd⟩ := and_mp hd
  obtain ⟨d8, hd⟩ := and_mp hd
  obtain ⟨d9, hd⟩ := and_mp hd
  obtain ⟨d10, hd⟩ := and_mp hd
  obtain ⟨d12, hd⟩ := and_mp hd
  obtain ⟨d13, hd⟩ := and_mp hd
  obtain ⟨d14, hd⟩ := and_mp hd
  obtain ⟨d15, hd⟩ := and_mp hd
  obtain ⟨d16, hd⟩ := and_mp hd
  obtain ⟨d17, hd⟩ := and_mp hd
  obtain ⟨d18, hd⟩ := and_mp hd
  obtain ⟨d19, hd⟩ := and_mp hd
  have d20 := hd
  exact rl_of hr hu hv ht h02 (Or.inl d1) (Or.inl d2) (Or.inl d3) (Or.inl d4) (Or.inl d5) (Or.inl d6) (Or.inl d7) (Or.inl d8) (Or.inl d9) (Or.inl d10) (Or.inr n11) (Or.inl d12) (Or.inl d13) (Or.inl d14) (Or.inl d15) (Or.inl d16) (Or.inl d17) (Or.inl ⟨h08, h09, d18⟩) (Or.inl d19) (Or.inl d20)
theorem rl_12 {I I1 J J1 : MI} (l m f : List Nat) (hr : Rl I J) (hu : UI l I I1) (hv : UJ m f J J1) (ht : UT I I1) (h02 : I1 0 2 = I 0 2) (h08 : I1 0 8 = I 0 8) (h09 : I1 0 9 = I 0 9) (n12 : bNot I1 37 1 J1) (hd : ((noneIn l (List.range' 2 11) && noneIn (207 :: m) [208, 211, 212, 213, 214] && noneIn f [6, 7]) && ((noneIn l [14] && noneIn (207 :: m) [215]) && ((noneIn l (List.range' 16 4) && noneIn (207 :: m) [218, 219, 220, 221, 222, 223, 224]) && ((noneIn l (List.range' 21 2) && noneIn (207 :: m) [226] && noneIn f [36]) && ((noneIn l (2 :: List.range' 23 2) && noneIn (207 :: m) [227] && noneIn f [38]) && ((noneIn l (List.range' 25 2) && noneIn (207 :: m) [228] && noneIn f [40]) && ((noneIn l (List.range' 27 2) && noneIn (207 :: m) [231, 232] && noneIn f [44]) && ((noneIn l (List.range' 29 2) && noneIn (207 :: m) [235, 236] && noneIn f [49]) && ((noneIn l (List.range' 31 2) && noneIn (207 :: m) [238, 239, 240] && noneIn f [53]) && ((noneIn l (List.range' 33 2) && noneIn (207 :: m) [241] && noneIn f [57]) && ((noneIn l (List.range' 35 2) && noneIn (207 :: m) [242, 243]) && ((noneIn l (List.range' 39 2) && noneIn (207 :: m) [244] && noneIn f [61]) && ((noneIn l (List.range' 41 2) && noneIn (207 :: m) [245, 246] && noneIn f [63]) && ((noneIn l (List.range' 43 2) && noneIn (207 :: m) [248] && noneIn f [67]) && ((noneIn l (List.range' 45 2) && noneIn (207 :: m) [250] && noneIn f [70]) && ((noneIn l [93, 106] && noneIn (207 :: m) [216] && noneIn f [14, 34, 35]) && ((noneIn l (List.range' 124 66) && noneIn (207 :: m) [209, 211, 212, 213, 214] && noneIn f [3, 6, 7]) && ((noneIn l (List.range' 48 45) && noneIn (207 :: m) [253] && noneIn f [75]) && (noneIn l [110, 122, 206] && noneIn (207 :: m) [217] && noneIn f [5]))))))))))))))))))) = true) : Rl I1 J1 := by
  obtain ⟨d1, hd⟩ := and_mp hd
  obtain ⟨d2, hd⟩ := and_mp hd
  obtain ⟨d3, hd⟩ := and_mp hd
  obtain ⟨d4, hd⟩ := and_mp hd
  obtain ⟨d5, hd⟩ := and_mp hd
  obtain ⟨d6, hd⟩ := and_mp hd
  obtain ⟨d7, hd⟩ := and_mp hd
  obtain ⟨d8, hd⟩ := and_mp hd
  obtain ⟨d9, hd⟩ := and_mp hd
  obtain ⟨d10, hd⟩ := and_mp hd
  obtain ⟨d11, hd⟩ := and_mp hd
  obtain ⟨d13, hd⟩ := and_mp hd
  obtain ⟨d14, hd⟩ := and_mp hd
  obtain ⟨d15, hd⟩ := and_mp hd
  obtain ⟨d16, hd⟩ := and_mp hd
  obtain ⟨d17, hd⟩ := and_mp hd
  obtain ⟨d18, hd⟩ := and_mp hd
  obtain ⟨d19, hd⟩ := and_mp hd
  have d20 := hd
  exact rl_of hr hu hv ht h02 (Or.inl d1) (Or.inl d2) (Or.inl d3) (Or.inl d4) (Or.inl d5) (Or.inl d6) (Or.inl d7) (Or.inl d8) (Or.inl d9) (Or.inl d10) (Or.inl d11) (Or.inr n12) (Or.inl d13) (Or.inl d14) (Or.inl d15) (Or.inl d16) (Or.inl d17) (Or.inl ⟨h08, h09, d18⟩) (Or.inl d19) (Or.inl d20)
theorem rl_13 {I I1 J J1 : MI} (l m f : List Nat) (hr : Rl I J) (hu : UI l I I1) (hv : UJ m f J J1) (ht : UT I I1) (h02 : I1 0 2 = I 0 2) (h08 : I1 0 8 = I 0 8) (h09 : I1 0 9 = I 0 9) (n13 : bBoo I1 39 J1) (hd : ((noneIn l (List.range' 2 11) && noneIn (207 :: m) [208, 211, 212, 213, 214] && noneIn f [6, 7]) && ((noneIn l [14] && noneIn (207 :: m) [215]) && ((noneIn l (List.range' 16 4) && noneIn (207 :: m) [218, 219, 220, 221, 222, 223, 224]) && ((noneIn l (List.range' 21 2) && noneIn (207 :: m) [226] && noneIn f [36]) && ((noneIn l (2 :: List.range' 23 2) && noneIn (207 :: m) [227] && noneIn f [38]) && ((noneIn l (List.range' 25 2) && noneIn (207 :: m) [228] && noneIn f [40]) && ((noneIn l (List.range' 27 2) && noneIn (207 :: m) [231, 232] && noneIn f [44]) && ((noneIn l (List.range' 29 2) && noneIn (207 :: m) [235, 236] && noneIn f [49]) && ((noneIn l (List.range' 31 2) && noneIn (207 :: m) [238, 239, 240] && noneIn f [53]) && ((noneIn l (List.range' 33 2) && noneIn (207 :: m) [241] && noneIn f [57]) && ((noneIn l (List.range' 35 2) && noneIn (207 :: m) [242, 243]) && ((noneIn l (List.range' 37 2) && noneIn (207 :: m) [242, 243]) && ((noneIn l (List.range' 41 2) && noneIn (207 :: m) [245, 246] && noneIn f [63]) && ((noneIn l (List.range' 43 2) && noneIn (207 :: m) [248] && noneIn f [67]) && ((noneIn l (List.range' 45 2) && noneIn (207 :: m) [250] && noneIn f [70]) && ((noneIn l [93, 106] && noneIn (207 :: m) [216] && noneIn f [14, 34, 35]) && ((noneIn l (List.range' 124 66) && noneIn (207 :: m) [209, 211, 212, 213, 214] && noneIn f [3, 6, 7]) && ((noneIn l (List.range' 48 45) && noneIn (207 :: m) [253] && noneIn f [75]) && (noneIn l [110, 122, 206] && noneIn (207 :: m) [217] && noneIn f [5]))))))))))))))))))) = true) : Rl I1 J1 := by
  obtain ⟨d1, hd⟩ := and_mp hd
  obtain ⟨d2, hd⟩ := and_mp hd
  obtain ⟨d3, hd⟩ := and_mp hd
  obtain ⟨d4, hd⟩ := and_mp hd
  obtain ⟨d5, hd⟩ := and_mp hd
  obtain ⟨d6, hd⟩ := and_mp hd
  obtain ⟨d7, hd⟩ := and_mp hd
  obtain ⟨d8, hd⟩ := and_mp hd
  obtain ⟨d9, hd⟩ := and_mp hd
  obtain ⟨d10, hd⟩ := and_mp hd
  obtain ⟨d11, hd⟩ := and_mp hd
  obtain ⟨d12, hd⟩ := and_mp hd
  obtain ⟨d14, hd⟩ := and_mp hd
  obtain ⟨d15, hd⟩ := and_mp hd
  obtain ⟨d16, hd⟩ := and_mp hd
  obtain ⟨d17, hd⟩ := and_mp hd
  obtain ⟨d18, hd⟩ := and_mp hd
  obtain ⟨d19, hd⟩ := and_mp hd
  have d20 := hd
  exact rl_of hr hu hv ht h02 (Or.inl d1) (Or.inl d2) (Or.inl d3) (Or.inl d4) (Or.inl d5) (Or.inl d6) (Or.inl d7) (Or.inl d8) (Or.inl d9) (Or.inl d10) (Or.inl d11) (Or.inl d12) (Or.inr n13) (Or.inl d14) (Or.inl d15) (Or.inl d16) (Or.inl d17) (Or.inl ⟨h08, h09, d18⟩) (Or.inl d19) (Or.inl d20)
theorem rl_14 {I I1 J J1 : MI} (l m f : List Nat) (hr : Rl I J) (hu : UI l I I1) (hv : UJ m f J J1) (ht : UT I I1) (h02 : I1 0 2 = I 0 2) (h08 : I1 0 8 = I 0 8) (h09 : I1 0 9 = I 0 9) (n14 : bBed I1 41 J1) (hd : ((noneIn l (List.range' 2 11) && noneIn (207 :: m) [208, 211, 212, 213, 214] && noneIn f [6, 7]) && ((noneIn l [14] && noneIn (207 :: m) [215]) && ((noneIn l (List.range' 16 4) && noneIn (207 :: m) [218, 219, 220, 221, 222, 223, 224]) && ((noneIn l (List.range' 21 2) && noneIn (207 :: m) [226] && noneIn f [36]) && ((noneIn l (2 :: List.range' 23 2) && noneIn (207 :: m) [227] && noneIn f [38]) && ((noneIn l (List.range' 25 2) && noneIn (207 :: m) [228] && noneIn f [40]) && ((noneIn l (List.range' 27 2) && noneIn (207 :: m) [231, 232] && noneIn f [44]) && ((noneIn l (List.range' 29 2) && noneIn (207 :: m) [235, 236] && noneIn f [49]) && ((noneIn l (List.range' 31 2) && noneIn (207 :: m) [238, 239, 240] && noneIn f [53]) && ((noneIn l (List.range' 33 2) && noneIn (207 :: m) [241] && noneIn f [57]) && ((noneIn l (List.range' 35 2) && noneIn (207 :: m) [242, 243]) && ((noneIn l (List.range' 37 2) && noneIn (207 :: m) [242, 243]) && ((noneIn l (List.range' 39 2) && noneIn (207 :: m) [244] && noneIn f [61]) && ((noneIn l (List.range' 43 2) && noneIn (207 :: m) [248] && noneIn f [67]) && ((noneIn l (List.range' 45 2) && noneIn (207 :: m) [250] && noneIn f [70]) && ((noneIn l [93, 106] && noneIn (207 :: m) [216] && noneIn f [14, 34, 35]) && ((noneIn l (List.range' 124 66) && noneIn (207 :: m) [209, 211, 212, 213, 214] && noneIn f [3, 6, 7]) && ((noneIn l (List.range' 48 45) && noneIn (207 :: m) [253] && noneIn f [75]) && (noneIn l [110, 122, 206] && noneIn (207 :: m) [217] && noneIn f [5]))))))))))))))))))) = true) : Rl I1 J1 := by
  obtain ⟨d1, hd⟩ := and_mp hd
  obtain ⟨d2, hd⟩ := and_mp hd
  obtain ⟨d3, hd⟩ := and_mp hd
  obtain ⟨d4, hd⟩ := and_mp hd
  obtain ⟨d5, hd⟩ := and_mp hd
  obtain ⟨d6, hd⟩ := and_mp hd
  obtain ⟨d7, hd⟩ := and_mp hd
  obtain ⟨d8, hd⟩ := and_mp hd
  obtain ⟨d9, hd⟩ := and_mp hd
  obtain ⟨d10, hd⟩ := and_mp hd
  obtain ⟨d11, hd⟩ := and_mp hd
  obtain ⟨d12, hd⟩ := and_mp hd
  obtain ⟨d13, hd⟩ := and_mp hd
  obtain ⟨d15, hd⟩ := and_mp hd
  obtain ⟨d16, hd⟩ := and_mp hd
  obtain ⟨d17, hd⟩ := and_mp hd
  obtain ⟨d18, hd⟩ := and_mp hd
  obtain ⟨d19, hd⟩ := and_mp hd
  have d20 := hd
  exact rl_of hr hu hv ht h02 (Or.inl d1) (Or.inl d2) (Or.inl d3) (Or.inl d4) (Or.inl d5) (Or.inl d6) (Or.inl d7) (Or.inl d8) (Or.inl d9) (Or.inl d10) (Or.inl d11) (Or.inl d12) (Or.inl d13) (Or.inr n14) (Or.inl d15) (Or.inl d16) (Or.inl d17) (Or.inl ⟨h08, h09, d18⟩) (Or.inl d19) (Or.inl d20)
theorem rl_15 {I I1 J J1 : MI} (l m f : List Nat) (hr : Rl I J) (hu : UI l I I1) (hv : UJ m f J J1) (ht : UT I I1) (h02 : I1 0 2 = I 0 2) (h08 : I1 0 8 = I 0 8) (h09 : I1 0 9 = I 0 9) (n15 : bBox I1 43 J1) (hd : ((noneIn l (List.range' 2 11) && noneIn (207 :: m) [208, 211, 212, 213, 214] && noneIn f [6, 7]) && ((noneIn l [14] && noneIn (207 :: m) [215]) && ((noneIn l (List.range' 16 4) && noneIn (207 :: m) [218, 219, 220, 221, 222, 223, 224]) && ((noneIn l (List.range' 21 2) && noneIn (207 :: m) [226] && noneIn f [36]) && ((noneIn l (2 :: List.range' 23 2) && noneIn (207 :: m) [227] && noneIn f [38]) && ((noneIn l (List.range' 25 2) && noneIn (207 :: m) [228] && noneIn f [40]) && ((noneIn l (List.range' 27 2) && noneIn (207 :: m) [231, 232] && noneIn f [44]) && ((noneIn l (List.range' 29 2) && noneIn (207 :: m) [235, 236] && noneIn f [49]) && ((noneIn l (List.range' 31 2) && noneIn (207 :: m) [238, 239, 240] && noneIn f [53]) && ((noneIn l (List.range' 33 2) && noneIn (207 :: m) [241] && noneIn f [57]) && ((noneIn l (List.range' 35 2) && noneIn (207 :: m) [242, 243]) && ((noneIn l (List.range' 37 2) && noneIn (207 :: m) [242, 243]) && ((noneIn l (List.range' 39 2) && noneIn (207 :: m) [244] && noneIn f [61]) && ((noneIn l (List.range' 41 2) && noneIn (207 :: m) [245, 246] && noneIn f [63]) && ((noneIn l (List.range' 45 2) && noneIn (207 :: m) [250] && noneIn f [70]) && ((noneIn l [93, 106] && noneIn (207 :: m) [216] && noneIn f [14, 34, 35]) && ((noneIn l (List.range' 124 66) && noneIn (207 :: m) [209, 211, 212, 213, 214] && noneIn f [3, 6, 7]) && ((noneIn l (List.range' 48 45) && noneIn (207 :: m) [253] && noneIn f [75]) && (noneIn l [110, 122, 206] && noneIn (207 :: m) [217] && noneIn f [5]))))))))))))))))))) = true) : Rl I1 J1 := by
  obtain ⟨d1, hd⟩ := and_mp hd
  obtain ⟨d2, hd⟩ := and_mp hd
  obtain ⟨d3, hd⟩ := and_mp hd
  obtain ⟨d4, hd⟩ := and_mp hd
  obtain ⟨d5, hd⟩ := and_mp hd
  obtain ⟨d6, hd⟩ := and_mp hd
  obtain ⟨d7, hd⟩ := and_mp hd
  obtain ⟨d8, hd⟩ := and_mp hd
  obtain ⟨d9, hd⟩ := and_mp hd
  obtain ⟨d10, hd⟩ := and_mp hd
  obtain ⟨d11, hd⟩ := and_mp hd
  obtain ⟨d12, hd⟩ := and_mp hd
  obtain ⟨d13, hd⟩ := and_mp hd
  obtain ⟨d14, hd⟩ := and_mp hd
  obtain ⟨d16, hd⟩ := and_mp hd
  obtain ⟨d17, hd⟩ := and_mp hd
  obtain ⟨d18, hd⟩ := and_mp hd
  obtain ⟨d19, hd⟩ := and_mp hd
  have d20 := hd
  exact rl_of hr hu hv ht h02 (Or.inl d1) (Or.inl d2) (Or.inl d3) (Or.inl d4) (Or.inl d5) (Or.inl d6) (Or.inl d7) (Or.inl d8) (Or.inl d9) (Or.inl d10) (Or.inl d11) (Or.inl d12) (Or.inl d13) (Or.inl d14) (Or.inr n15) (Or.inl d16) (Or.inl d17) (Or.inl ⟨h08, h09, d18⟩) (Or.inl d19) (Or.inl d20)
theorem rl_16 {I I1 J J1 : MI} (l m f : List Nat) (hr : Rl I J) (hu : UI l I I1) (hv : UJ m f J J1) (ht : UT I I1) (h02 : I1 0 2 = I 0 2) (h08 : I1 0 8 = I 0 8) (h09 : I1 0 9 = I 0 9) (n16 : bLoa I1 45 J1) (hd : ((noneIn l (List.range' 2 11) && noneIn (207 :: m) [208, 211, 212, 213, 214] && noneIn f [6, 7]) && ((noneIn l [14] && noneIn (207 :: m) [215]) && ((noneIn l (List.range' 16 4) && noneIn (207 :: m) [218, 219, 220, 221, 222, 223, 224]) && ((noneIn l (List.range' 21 2) && noneIn (207 :: m) [226] && noneIn f [36]) && ((noneIn l (2 :: List.range' 23 2) && noneIn (207 :: m) [227] && noneIn f [38]) && ((noneIn l (List.range' 25 2) && noneIn (207 :: m) [228] && noneIn f [40]) && ((noneIn l (List.range' 27 2) && noneIn (207 :: m) [231, 232] && noneIn f [44]) && ((noneIn l (List.range' 29 2) && noneIn (207 :: m) [235, 236] && noneIn f [49]) && ((noneIn l (List.range' 31 2) && noneIn (207 :: m) [238, 239, 240] && noneIn f [53]) && ((noneIn l (List.range' 33 2) && noneIn (207 :: m) [241] && noneIn f [57]) && ((noneIn l (List.range' 35 2) && noneIn (207 :: m) [242, 243]) && ((noneIn l (List.range' 37 2) && noneIn (207 :: m) [242, 243]) && ((noneIn l (List.range' 39 2) && noneIn (207 :: m) [244] && noneIn f [61]) && ((noneIn l (List.range' 41 2) && noneIn (207 :: m) [245, 246] && noneIn f [63]) && ((noneIn l (List.range' 43 2) && noneIn (207 :: m) [248] && noneIn f [67]) && ((noneIn l [93, 106] && noneIn (207 :: m) [216] && noneIn f [14, 34, 35]) && ((noneIn l (List.range' 124 66) && noneIn (207 :: m) [209, 211, 212, 213, 214] && noneIn f [3, 6, 7]) && ((noneIn l (List.range' 48 45) && noneIn (207 :: m) [253] && noneIn f [75]) && (noneIn l [110, 122, 206] && noneIn (207 :: m) [217] && noneIn f [5]))))))))))))))))))) = true) : Rl I1 J1 := by
  obtain ⟨d1, hd⟩ := and_mp hd
  obtain ⟨d2, hd⟩ := and_mp hd
  obtain ⟨d3, hd⟩ := and_mp hd
  obtain ⟨d4, hd⟩ := and_mp hd
  obtain ⟨d5, hd⟩ := and_mp hd
  obtain ⟨d6, hd⟩ := and_mp hd
  obtain ⟨d7, hd⟩ := and_mp hd
  obtain ⟨d8, hd⟩ := and_mp hd
  obtain ⟨d9, hd⟩ := and_mp hd
  obtain ⟨d10, hd⟩ := and_mp hd
  obtain ⟨d11, hd⟩ := and_mp hd
  obtain ⟨d12, hd⟩ := and_mp hd
  obtain ⟨d13, hd⟩ := and_mp hd
  obtain ⟨d14, hd⟩ := and_mp hd
  obtain ⟨d15, hd⟩ := and_mp hd
  obtain ⟨d17, hd⟩ := and_mp hd
  obtain ⟨d18, hd⟩ := and_mp hd
  obtain ⟨d19, hd⟩ := and_mp hd
  have d20 := hd
  exact rl_of hr hu hv ht h02 (Or.inl d1) (Or.inl d2) (Or.inl d3) (Or.inl d4) (Or.inl d5) (Or.inl d6) (Or.inl d7) (Or.inl d8) (Or.inl d9) (Or.inl d10) (Or.inl d11) (Or.inl d12) (Or.inl d13) (Or.inl d14) (Or.inl d15) (Or.inr n16) (Or.inl d17) (Or.inl ⟨h08, h09, d18⟩) (Or.inl d19) (Or.inl d20)
theorem rl_17 {I I1 J J1 : MI} (l m f : List Nat) (hr : Rl I J) (hu : UI l I I1) (hv : UJ m f J J1) (ht : UT I I1) (h02 : I1 0 2 = I 0 2) (h08 : I1 0 8 = I 0 8) (h09 : I1 0 9 = I 0 9) (n17 : bTap I1 J1) (hd : ((noneIn l (List.range' 2 11) && noneIn (207 :: m) [208, 211, 212, 213, 214] && noneIn f [6, 7]) && ((noneIn l [14] && noneIn (207 :: m) [215]) && ((noneIn l (List.range' 16 4) && noneIn (207 :: m) [218, 219, 220, 221, 222, 223, 224]) && ((noneIn l (List.range' 21 2) && noneIn (207 :: m) [226] && noneIn f [36]) && ((noneIn l (2 :: List.range' 23 2) && noneIn (207 :: m) [227] && noneIn f [38]) && ((noneIn l (List.range' 25 2) && noneIn (207 :: m) [228] && noneIn f [40]) && ((noneIn l (List.range' 27 2) && noneIn (207 :: m) [231, 232] && noneIn f [44]) && ((noneIn l (List.range' 29 2) && noneIn (207 :: m) [235, 236] && noneIn f [49]) && ((noneIn l (List.range' 31 2) && noneIn (207 :: m) [238, 239, 240] && noneIn f [53]) && ((noneIn l (List.range' 33 2) && noneIn (207 :: m) [241] && noneIn f [57]) && ((noneIn l (List.range' 35 2) && noneIn (207 :: m) [242, 243]) && ((noneIn l (List.range' 37 2) && noneIn (207 :: m) [242, 243]) && ((noneIn l (List.range' 39 2) && noneIn (207 :: m) [244] && noneIn f [61]) && ((noneIn l (List.range' 41 2) && noneIn (207 :: m) [245, 246] && noneIn f [63]) && ((noneIn l (List.range' 43 2) && noneIn (207 :: m) [248] && noneIn f [67]) && ((noneIn l (List.range' 45 2) && noneIn (207 :: m) [250] && noneIn f [70]) && ((noneIn l (List.range' 124 66) && noneIn (207 :: m) [209, 211, 212, 213, 214] && noneIn f [3, 6, 7]) && ((noneIn l (List.range' 48 45) && noneIn (207 :: m) [253] && noneIn f [75]) && (noneIn l [110, 122, 206] && noneIn (207 :: m) [217] && noneIn f [5]))))))))))))))))))) = true) : Rl I1 J1 := by
  obtain ⟨d1, hd⟩ := and_mp hd
  obtain ⟨d2, hd⟩ := and_mp hd
  obtain ⟨d3, hd⟩ := and_mp hd
  obtain ⟨d4, hd⟩ := and_mp hd
  obtain ⟨d5, hd⟩ := and_mp hd
  obtain ⟨d6, hd⟩ := and_mp hd
  obtain ⟨d7, hd⟩ := and_mp hd
  obtain ⟨d8, hd⟩ := and_mp hd
  obtain ⟨d9, hd⟩ := and_mp hd
  obtain ⟨d10, hd⟩ := and_mp hd
  obtain ⟨d11, hd⟩ := and_mp hd
  obtain ⟨d12, hd⟩ := and_mp hd
  obtain ⟨d13, hd⟩ := and_mp hd
  obtain ⟨d14, hd⟩ := and_mp hd
  obtain ⟨d15, hd⟩ := and_mp hd
  obtain ⟨d16, hd⟩ := and_mp hd
  obtain ⟨d18, hd⟩ := and_mp hd
  obtain ⟨d19, hd⟩ := and_mp hd
  have d20 := hd
  exact rl_of hr hu hv ht h02 (Or.inl d1) (Or.inl d2) (Or.inl d3) (Or.inl d4) (Or.inl d5) (Or.inl d6) (Or.inl d7) (Or.inl d8) (Or.inl d9) (Or.inl d10) (Or.inl d11) (Or.inl d12) (Or.inl d13) (Or.inl d14) (Or.inl d15) (Or.inl d16) (Or.inr n17) (Or.inl ⟨h08, h09, d18⟩) (Or.inl d19) (Or.inl d20)
theorem rl_18 {I I1 J J1 : MI} (l m f : List Nat) (hr : Rl I J) (hu : UI l I I1) (hv : UJ m f J J1) (ht : UT I I1) (h02 : I1 0 2 = I 0 2) (h08 : I1 0 8 = I 0 8) (h09 : I1 0 9 = I 0 9) (n18 : bPst I1 J1) (hd : ((noneIn l (List.range' 2 11) && noneIn (207 :: m) [208, 211, 212, 213, 214] && noneIn f [6, 7]) && ((noneIn l [14] && noneIn (207 :: m) [215]) && ((noneIn l (List.range' 16 4) && noneIn (207 :: m) [218, 219, 220, 221, 222, 223, 224]) && ((noneIn l (List.range' 21 2) && noneIn (207 :: m) [226] && noneIn f [36]) && ((noneIn l (2 :: List.range' 23 2) && noneIn (207 :: m) [227] && noneIn f [38]) && ((noneIn l (List.range' 25 2) && noneIn (207 :: m) [228] && noneIn f [40]) && ((noneIn l (List.range' 27 2) && noneIn (207 :: m) [231, 232] && noneIn f [44]) && ((noneIn l (List.range' 29 2) && noneIn (207 :: m) [235, 236] && noneIn f [49]) && ((noneIn l (List.range' 31 2) && noneIn (207 :: m) [238, 239, 240] && noneIn f [53]) && ((noneIn l (List.range' 33 2) && noneIn (207 :: m) [241] && noneIn f [57]) && ((noneIn l (List.range' 35 2) && noneIn (207 :: m) [242, 243]) && ((noneIn l (List.range' 37 2) && noneIn (207 :: m) [242, 243]) && ((noneIn l (List.range' 39 2) && noneIn (207 :: m) [244] && noneIn f [61]) && ((noneIn l (List.range' 41 2) && noneIn (207 :: m) [245, 246] && noneIn f [63]) && ((noneIn l (List.range' 43 2) && noneIn (207 :: m) [248] && noneIn f [67]) && ((noneIn l (List.range' 45 2) && noneIn (207 :: m) [250] && noneIn f [70]) && ((noneIn l [93, 106] && noneIn (207 :: m) [216] && noneIn f [14, 34, 35]) && ((noneIn l (List.range' 48 45) && noneIn (207 :: m) [253] && noneIn f [75]) && (noneIn l [110, 122, 206] && noneIn (207 :: m) [217] && noneIn f [5]))))))))))))))))))) = true) : Rl I1 J1 := by
  obtain ⟨d1, hd⟩ := and_mp hd
  obtain ⟨d2, hd⟩ := and_mp hd
  obtain ⟨d3, hd⟩ := and_mp hd
  obtain ⟨d4, hd⟩ := and_mp hd
  obtain ⟨d5, hd⟩ := and_mp hd
  obtain ⟨d6, hd⟩ := and_mp hd
  obtain ⟨d7, hd⟩ := and_mp hd
  obtain ⟨d8, hd⟩ := and_mp hd
  obtain ⟨d9, hd⟩ := and_mp hd
  obtain ⟨d10, hd⟩ := and_mp hd
  obtain ⟨d11, hd⟩ := and_mp hd
  obtain ⟨d12, hd⟩ := and_mp hd
  obtain ⟨d13, hd⟩ := and_mp hd
  obtain ⟨d14, hd⟩ := and_mp hd
  obtain ⟨d15, hd⟩ := and_mp hd
  obtain ⟨d16, hd⟩ := and_mp hd
  obtain ⟨d17, hd⟩ := and_mp hd
  obtain ⟨d19, hd⟩ := and_mp hd
  have d20 := hd
  exact rl_of hr hu hv ht h02 (Or.inl d1) (Or.inl d2) (Or.inl d3) (Or.inl d4) (Or.inl d5) (Or.inl d6) (Or.inl d7) (Or.inl d8) (Or.inl d9) (Or.inl d10) (Or.inl d11) (Or.inl d12) (Or.inl d13) (Or.inl d14) (Or.inl d15) (Or.inl d16) (Or.inl d17) (Or.inr n18) (Or.inl d19) (Or.inl d20)
theorem rl_19 {I I1 J J1 : MI} (l m f : List Nat) (hr : Rl I J) (hu : UI l I I1) (hv : UJ m f J J1) (ht : UT I I1) (h02 : I1 0 2 = I 0 2) (h08 : I1 0 8 = I 0 8) (h09 : I1 0 9 = I 0 9) (n19 : bImg I1 J1) (hd : ((noneIn l (List.range' 2 11) && noneIn (207 :: m) [208, 211, 212, 213, 214] && noneIn f [6, 7]) && ((noneIn l [14] && noneIn (207 :: m) [215]) && ((noneIn l (List.range' 16 4) && noneIn (207 :: m) [218, 219, 220, 221, 222, 223, 224]) && ((noneIn l (List.range' 21 2) && noneIn (207 :: m) [226] && noneIn f [36]) && ((noneIn l (2 :: List.range' 23 2) && noneIn (207 :: m) [227] && noneIn f [38]) && ((noneIn l (List.range' 25 2) && noneIn (207 :: m) [228] && noneIn f [40]) && ((noneIn l (List.range' 27 2) && noneIn (207 :: m) [231, 232] && noneIn f [44]) && ((noneIn l (List.range' 29 2) && noneIn (207 :: m) [235, 236] && noneIn f [49]) && ((noneIn l (List.range' 31 2) && noneIn (207 :: m) [238, 239, 240] && noneIn f [53]) && ((noneIn l (List.range' 33 2) && noneIn (207 :: m) [241] && noneIn f [57]) && ((noneIn l (List.range' 35 2) && noneIn (207 :: m) [242, 243]) && ((noneIn l (List.range' 37 2) && noneIn (207 :: m) [242, 243]) && ((noneIn l (List.range' 39 2) && noneIn (207 :: m) [244] && noneIn f [61]) && ((noneIn l (List.range' 41 2) && noneIn (207 :: m) [245, 246] && noneIn f [63]) && ((noneIn l (List.range' 43 2) && noneIn (207 :: m) [248] && noneIn f [67]) && ((noneIn l (List.range' 45 2) && noneIn (207 :: m) [250] && noneIn f [70]) && ((noneIn l [93, 106] && noneIn (207 :: m) [216] && noneIn f [14, 34, 35]) && ((noneIn l (List.range' 124 66) && noneIn (207 :: m) [209, 211, 212, 213, 214] && noneIn f [3, 6, 7]) && (noneIn l [110, 122, 206] && noneIn (207 :: m) [217] && noneIn f [5]))))))))))))))))))) = true) : Rl I1 J1 := by
  obtain ⟨d1, hd⟩ := and_mp hd
  obtain ⟨d2, hd⟩ := and_mp hd
  obtain ⟨d3, hd⟩ := and_mp hd
  obtain ⟨d4, hd⟩ := and_mp hd
  obtain ⟨d5, hd⟩ := and_mp hd
  obtain ⟨d6, hd⟩ := and_mp hd
  obtain ⟨d7, hd⟩ := and_mp hd
  obtain ⟨d8, hd⟩ := and_mp hd
  obtain ⟨d9, hd⟩ := and_mp hd
  obtain ⟨d10, hd⟩ := and_mp hd
  obtain ⟨d11, hd⟩ := and_mp hd
  obtain ⟨d12, hd⟩ := and_mp hd
  obtain ⟨d13, hd⟩ := and_mp hd
  obtain ⟨d14, hd⟩ := and_mp hd
  obtain ⟨d15, hd⟩ := and_mp hd
  obtain ⟨d16, hd⟩ := and_mp hd
  obtain ⟨d17, hd⟩ := and_mp hd
  obtain ⟨d18, hd⟩ := and_mp hd
  have d20 := hd
  exact rl_of hr hu hv ht h02 (Or.inl d1) (Or.inl d2) (Or.inl d3) (Or.inl d4) (Or.inl d5) (Or.inl d6) (Or.inl d7) (Or.inl d8) (Or.inl d9) (Or.inl d10) (Or.inl d11) (Or.inl d12) (Or.inl d13) (Or.inl d14) (Or.inl d15) (Or.inl d16) (Or.inl d17) (Or.inl ⟨h08, h09, d18⟩) (Or.inr n19) (Or.inl d20)
theorem rl_told {I J : MI} (hr : Rl I J) : Rl I (bup J 207 (upd (J 207) 0 0)) := rl_none [] [] [0] hr (ui_refl _ _) (uj_fld (uj_refl _ _ _) rfl) (ut_refl _) rfl rfl rfl rfl
theorem put_Vot {I J I1 J1 : MI} {n k0 : Nat} (hn : n < 6) (b0 : k0 < 31) (hI : I1 33 3 = nn (n + 1)) (hJ : J1 207 57 = nn (n + 1)) (hC : I1 34 = upd (I 34) (n) (nn k0)) (h0 : J1 241 = upd (J 241) n (nn k0)) (hc : ∀ i, i < n → (∃ m, m < 31 ∧ I 34 (i) = nn m ∧ J 241 i = nn m)) : bVot I1 33 J1 := by
  refine ⟨n + 1, by omega, hI, hJ, fun i hi => ?_⟩
  show (∃ m, m < 31 ∧ I1 34 (i) = nn m ∧ J1 241 i = nn m)
  rw [hC, h0]
  rcases Nat.lt_or_ge i n with h | h
  · rw [upd_ne _ _ (by omega), upd_ne _ _ (by omega)]; exact hc i h
  · have e : i = n := by omega
    subst e
    exact ⟨k0, b0, by rw [upd_eq], by rw [upd_eq]⟩
theorem put_Boo {I J I1 J1 : MI} {n k0 : Nat} (hn : n < 8) (b0 : k0 < 51) (hI : I1 39 3 = nn (n + 1)) (hJ : J1 207 61 = nn (n + 1)) (hC : I1 40 = upd (I 40) (n) (nn k0)) (h0 : J1 244 = upd (J 244) n (nn k0)) (hc : ∀ i, i < n → (∃ m, m < 51 ∧ I 40 (i) = nn m ∧ J 244 i = nn m)) : bBoo I1 39 J1 := by
  refine ⟨n + 1, by omega, hI, hJ, fun i hi => ?_⟩
  show (∃ m, m < 51 ∧ I1 40 (i) = nn m ∧ J1 244 i = nn m)
  rw [hC, h0]
  rcases Nat.lt_or_ge i n with h | h
  · rw [upd_ne _ _ (by omega), upd_ne _ _ (by omega)]; exact hc i h
  · have e : i = n := by omega
    subst e
    exact ⟨k0, b0, by rw [upd_eq], by rw [upd_eq]⟩
theorem put_Box {I J I1 J1 : MI} {n k0 : Nat} (hn : n < 10) (b0 : k0 < 26) (hI : I1 43 3 = nn (n + 1)) (hJ : J1 207 67 = nn (n + 1)) (hC : I1 44 = upd (I 44) (n) (nn k0)) (h0 : J1 248 = upd (J 248) n (nn k0)) (hc : ∀ i, i < n → (∃ m, m < 26 ∧ I 44 (i) = nn m ∧ J 248 i = nn m)) : bBox I1 43 J1 := by
  refine ⟨n + 1, by omega, hI, hJ, fun i hi => ?_⟩
  show (∃ m, m < 26 ∧ I1 44 (i) = nn m ∧ J1 248 i = nn m)
  rw [hC, h0]
  rcases Nat.lt_or_ge i n with h | h
  · rw [upd_ne _ _ (by omega), upd_ne _ _ (by omega)]; exact hc i h
  · have e : i = n := by omega
    subst e
    exact ⟨k0, b0, by rw [upd_eq], by rw [upd_eq]⟩
theorem put_Sig {I J I1 J1 : MI} {n k0 k1 : Nat} (hn : n < 10) (b0 : k0 < 100) (b1 : k1 < 10) (hI : I1 27 3 = nn (n + 1)) (hJ : J1 207 44 = nn (n + 1)) (hC : I1 28 = upd (upd (I 28) (2 * n) (nn k0)) (2 * n + 1) (nn k1)) (h0 : J1 231 = upd (J 231) n (nn k0)) (h1 : J1 232 = upd (J 232) n (nn k1)) (hc : ∀ i, i < n → (∃ m, m < 100 ∧ I 28 (2 * i) = nn m ∧ J 231 i = nn m) ∧ (∃ m, m < 10 ∧ I 28 (2 * i + 1) = nn m ∧ J 232 i = nn m)) : bSig I1 27 J1 := by
  refine ⟨n + 1, by omega, hI, hJ, fun i hi => ?_⟩
  show (∃ m, m < 100 ∧ I1 28 (2 * i) = nn m ∧ J1 231 i = nn m) ∧ (∃ m, m < 10 ∧ I1 28 (2 * i + 1) = nn m ∧ J1 232 i = nn m)
  rw [hC, h0, h1]
  rcases Nat.lt_or_ge i n with h | h
  · rw [upd_ne _ _ (by omega), upd_ne _ _ (by omega), upd_ne _ _ (by omega), upd_ne _ _ (by omega), upd_ne _ _ (by omega), upd_ne _ _ (by omega)]; exact hc i h
  · have e : i = n := by omega
    subst e
    exact ⟨⟨k0, b0, by rw [upd_ne _ _ (by omega), upd_eq], by rw [upd_eq]⟩, k1, b1, by rw [upd_eq], by rw [upd_eq]⟩
theorem put_Bed {I J I1 J1 : MI} {n k0 k1 : Nat} (hn : n < 8) (b0 : k0 < 51) (b1 : k1 < 51) (hI : I1 41 3 = nn (n + 1)) (hJ : J1 207 63 = nn (n + 1)) (hC : I1 42 = upd (upd (I 42) (2 * n) (nn k0)) (2 * n + 1) (nn k1)) (h0 : J1 245 = upd (J 245) n (nn k0)) (h1 : J1 246 = upd (J 246) n (nn k1)) (hc : ∀ i, i < n → (∃ m, m < 51 ∧ I 42 (2 * i) = nn m ∧ J 245 i = nn m) ∧ (∃ m, m < 51 ∧ I 42 (2 * i + 1) = nn m ∧ J 246 i = nn m)) : bBed I1 41 J1 := by
  refine ⟨n + 1, by omega, hI, hJ, fun i hi => ?_⟩
  show (∃ m, m < 51 ∧ I1 42 (2 * i) = nn m ∧ J1 245 i = nn m) ∧ (∃ m, m < 51 ∧ I1 42 (2 * i + 1) = nn m ∧ J1 246 i = nn m)
  rw [hC, h0, h1]
  rcases Nat.lt_or_ge i n with h | h
  · rw [upd_ne _ _ (by omega), upd_ne _ _ (by omega), upd_ne _ _ (by omega), upd_ne _ _ (by omega), upd_ne _ _ (by omega), upd_ne _ _ (by omega)]; exact hc i h
  · have e : i = n := by omega
    subst e
    exact ⟨⟨k0, b0, by rw [upd_ne _ _ (by omega), upd_eq], by rw [upd_eq]⟩, k1, b1, by rw [upd_eq], by rw [upd_eq]⟩
theorem put_Wrd {I J I1 J1 : MI} {n k0 k1 k2 : Nat} (hn : n < 10) (b0 : k0 < 8) (b1 : k1 < 8) (b2 : k2 < 2) (hI : I1 31 3 = nn (n + 1)) (hJ : J1 207 53 = nn (n + 1)) (hC : I1 32 = upd (upd (upd (I 32) (3 * n) (nn k0)) (3 * n + 1) (nn k1)) (3 * n + 2) (nn k2)) (h0 : J1 238 = upd (J 238) n (nn k0)) (h1 : J1 239 = upd (J 239) n (nn k1)) (h2 : J1 240 = upd (J 240) n (nn k2)) (hc : ∀ i, i < n → (∃ m, m < 8 ∧ I 32 (3 * i) = nn m ∧ J 238 i = nn m) ∧ (∃ m, m < 8 ∧ I 32 (3 * i + 1) = nn m ∧ J 239 i = nn m) ∧ (∃ m, m < 2 ∧ I 32 (3 * i + 2) = nn m ∧ J 240 i = nn m)) : bWrd I1 31 J1 := by
  refine ⟨n + 1, by omega, hI, hJ, fun i hi => ?_⟩
  show (∃ m, m < 8 ∧ I1 32 (3 * i) = nn m ∧ J1 238 i = nn m) ∧ (∃ m, m < 8 ∧ I1 32 (3 * i + 1) = nn m ∧ J1 239 i = nn m) ∧ (∃ m, m < 2 ∧ I1 32 (3 * i + 2) = nn m ∧ J1 240 i = nn m)
  rw [hC, h0, h1, h2]
  rcases Nat.lt_or_ge i n with h | h
  · rw [upd_ne _ _ (by omega), upd_ne _ _ (by omega), upd_ne _ _ (by omega), upd_ne _ _ (by omega), upd_ne _ _ (by omega), upd_ne _ _ (by omega), upd_ne _ _ (by omega), upd_ne _ _ (by omega), upd_ne _ _ (by omega), upd_ne _ _ (by omega), upd_ne _ _ (by omega), upd_ne _ _ (by omega)]; exact hc i h
  · have e : i = n := by omega
    subst e
    exact ⟨⟨k0, b0, by rw [upd_ne _ _ (by omega), upd_ne _ _ (by omega), upd_eq], by rw [upd_eq]⟩, ⟨k1, b1, by rw [upd_ne _ _ (by omega), upd_eq], by rw [upd_eq]⟩, k2, b2, by rw [upd_eq], by rw [upd_eq]⟩
theorem c_vote (x : Int32) : Call (F_A_vote x) (F_R_vote x) := by
  refine call_of fun I J hr => ?_
  obtain ⟨⟨-, -, -, -, -, -, -, -, -, k10, -, -, -, -, -, -⟩, -, -, -, kc⟩ := id hr
  obtain ⟨n, hn, hI, hJ, hc⟩ := k10
  obtain ⟨tw, tr⟩ := con_at kc (t := 33) (w := 1) (r := 6) (by decide)
  unfold F_A_vote F_R_vote
  by_cases h1 : x = -1
  · simp only [ok_bn, ok_wr, ok_ite, if_pos h1, ok_wipe, ok_rt]
    exact ⟨trivial, rl_10 [33] [] [0, 57] hr (ui_bup (ui_refl _ _) rfl) (uj_fld (uj_fld (uj_refl _ _ _) rfl) rfl) (ut_sz (ut_refl _)) rfl rfl rfl ⟨0, by decide, rfl, rfl, fun i hi => absurd hi (by omega)⟩ rfl⟩
  · rcases rng (v := x) 1 30 (by decide) (by decide) with ⟨k0, a1, a2, rfl⟩ | out
    · have q := rng_in (by decide) a1 a2
      have wA : F_A_within (nn k0) 1 30 = rt 1 := wi_in q.1 q.2
      have wR : F_R_isIn (nn k0) 1 30 = rt 1 := ri_in q.1 q.2
      by_cases hf : n = 6
      · subst hf
        have e6 : J 207 57 = 6 := hJ
        simp (decide := true) only [ok_bn, ok_wr, ok_ite, ok_rt, ok_rd, ok_sr, ok_ld, ok_gdZ, if_true, if_false, if_neg h1, wA, wR, ok_putF hI tr (by decide) (by decide), bup_eq, upd_ne, e6]
        exact ⟨trivial, rl_told hr⟩
      · have hlt : n < 6 := by omega
        have e6 : ¬ nn n = 6 := nn_ne (by omega) (by decide) hf
        have e7 : inR (nn n) 6 = true := inR_nn hlt (by omega)
        have e8 : (nn n).toNatClampNeg = n := nn_nat (by omega)
        simp (decide := true) only [ok_bn, ok_wr, ok_ite, ok_rt, ok_rd, ok_sr, ok_ld, ok_gdZ, if_true, if_false, if_neg h1, wA, wR, ok_put tw hI tr hlt rfl (by decide) (by decide) (by decide), bup_eq, bup_ne, upd_eq, upd_ne, hJ, e6, e7, e8, true_and, and_true]
        refine ⟨nn_add n 1, rl_10 [33, 34] [241] [0, 57] hr (ui_bup (ui_bup (ui_refl _ _) rfl) rfl) ?_ (ut_sz (ut_bup (ut_refl _) rfl)) rfl rfl rfl (put_Vot (k0 := k0) hlt (by omega) ?_ ?_ ?_ ?_ hc) rfl⟩
        · exact uj_fld (uj_bup (uj_fld (uj_refl _ _ _) rfl) rfl (by decide)) rfl
        · rw [bup_eq, upd_eq]
        · rw [bup_eq, upd_eq]; exact nn_add n 1
        · rw [bup_ne _ _ (by decide), bup_eq, lnF1]
        · simp (decide := true) only [bup_eq, bup_ne]
    · have wA : F_A_within x 1 30 = rt 0 := wi_out out
      have wR : F_R_isIn x 1 30 = rt 0 := ri_out out
      simp (decide := true) only [ok_bn, ok_wr, ok_ite, ok_rt, ok_rd, ok_sr, ok_ld, ok_gdZ, if_true, if_false, if_neg h1, wA, wR]
      exact ⟨trivial, rl_told hr⟩
theorem c_boot (x : Int32) : Call (F_A_boot x) (F_R_boot x) := by
  refine call_of fun I J hr => ?_
  obtain ⟨⟨-, -, -, -, -, -, -, -, -, -, -, -, k13, -, -, -⟩, -, -, -, kc⟩ := id hr
  obtain ⟨n, hn, hI, hJ, hc⟩ := k13
  obtain ⟨tw, tr⟩ := con_at kc (t := 39) (w := 1) (r := 8) (by decide)
  unfold F_A_boot F_R_boot
  by_cases h1 : x = -1
  · simp only [ok_bn, ok_wr, ok_ite, if_pos h1, ok_wipe, ok_rt]
    exact ⟨trivial, rl_13 [39] [] [0, 61] hr (ui_bup (ui_refl _ _) rfl) (uj_fld (uj_fld (uj_refl _ _ _) rfl) rfl) (ut_sz (ut_refl _)) rfl rfl rfl ⟨0, by decide, rfl, rfl, fun i hi => absurd hi (by omega)⟩ rfl⟩
  · rcases rng (v := x) 30 50 (by decide) (by decide) with ⟨k0, a1, a2, rfl⟩ | out
    · have q := rng_in (by decide) a1 a2
      have wA : F_A_within (nn k0) 30 50 = rt 1 := wi_in q.1 q.2
      have wR : F_R_isIn (nn k0) 30 50 = rt 1 := ri_in q.1 q.2
      by_cases hf : n = 8
      · subst hf
        have e6 : J 207 61 = 8 := hJ
        simp (decide := true) only [ok_bn, ok_wr, ok_ite, ok_rt, ok_rd, ok_sr, ok_ld, ok_gdZ, if_true, if_false, if_neg h1, wA, wR, ok_putF hI tr (by decide) (by decide), bup_eq, upd_ne, e6]
        exact ⟨trivial, rl_told hr⟩
      · have hlt : n < 8 := by omega
        have e6 : ¬ nn n = 8 := nn_ne (by omega) (by decide) hf
        have e7 : inR (nn n) 8 = true := inR_nn hlt (by omega)
        have e8 : (nn n).toNatClampNeg = n := nn_nat (by omega)
        simp (decide := true) only [ok_bn, ok_wr, ok_ite, ok_rt, ok_rd, ok_sr, ok_ld, ok_gdZ, if_true, if_false, if_neg h1, wA, wR, ok_put tw hI tr hlt rfl (by decide) (by decide) (by decide), bup_eq, bup_ne, upd_eq, upd_ne, hJ, e6, e7, e8, true_and, and_true]
        refine ⟨nn_add n 1, rl_13 [39, 40] [244] [0, 61] hr (ui_bup (ui_bup (ui_refl _ _) rfl) rfl) ?_ (ut_sz (ut_bup (ut_refl _) rfl)) rfl rfl rfl (put_Boo (k0 := k0) hlt (by omega) ?_ ?_ ?_ ?_ hc) rfl⟩
        · exact uj_fld (uj_bup (uj_fld (uj_refl _ _ _) rfl) rfl (by decide)) rfl
        · rw [bup_eq, upd_eq]
        · rw [bup_eq, upd_eq]; exact nn_add n 1
        · rw [bup_ne _ _ (by decide), bup_eq, lnF1]
        · simp (decide := true) only [bup_eq, bup_ne]
    · have wA : F_A_within x 30 50 = rt 0 := wi_out out
      have wR : F_R_isIn x 30 50 = rt 0 := ri_out out
      simp (decide := true) only [ok_bn, ok_wr, ok_ite, ok_rt, ok_rd, ok_sr, ok_ld, ok_gdZ, if_true, if_false, if_neg h1, wA, wR]
      exact ⟨trivial, rl_told hr⟩
theorem c_box (x : Int32) : Call (F_A_box x) (F_R_box x) := by
  refine call_of fun I J hr => ?_
  obtain ⟨⟨-, -, -, -, -, -, -, -, -, -, -, -, -, -, k15, -⟩, -, -, -, kc⟩ := id hr
  obtain ⟨n, hn, hI, hJ, hc⟩ := k15
  obtain ⟨tw, tr⟩ := con_at kc (t := 43) (w := 1) (r := 10) (by decide)
  unfold F_A_box F_R_box
  by_cases h1 : x = -1
  · simp only [ok_bn, ok_wr, ok_ite, if_pos h1, ok_wipe, ok_rt]
    exact ⟨trivial, rl_15 [43] [] [0, 67] hr (ui_bup (ui_refl _ _) rfl) (uj_fld (uj_fld (uj_refl _ _ _) rfl) rfl) (ut_sz (ut_refl _)) rfl rfl rfl ⟨0, by decide, rfl, rfl, fun i hi => absurd hi (by omega)⟩ rfl⟩
  · rcases rng (v := x) 0 25 (by decide) (by decide) with ⟨k0, a1, a2, rfl⟩ | out
    · have q := rng_in (by decide) a1 a2
      have wA : F_A_within (nn k0) 0 25 = rt 1 := wi_in q.1 q.2
      have wR : F_R_isIn (nn k0) 0 25 = rt 1 := ri_in q.1 q.2
      by_cases hf : n = 10
      · subst hf
        have e6 : J 207 67 = 10 := hJ
        simp (decide := true) only [ok_bn, ok_wr, ok_ite, ok_rt, ok_rd, ok_sr, ok_ld, ok_gdZ, if_true, if_false, if_neg h1, wA, wR, ok_putF hI tr (by decide) (by decide), bup_eq, upd_ne, e6]
        exact ⟨trivial, rl_told hr⟩
      · have hlt : n < 10 := by omega
        have e6 : ¬ nn n = 10 := nn_ne (by omega) (by decide) hf
        have e7 : inR (nn n) 10 = true := inR_nn hlt (by omega)
        have e8 : (nn n).toNatClampNeg = n := nn_nat (by omega)
        simp (decide := true) only [ok_bn, ok_wr, ok_ite, ok_rt, ok_rd, ok_sr, ok_ld, ok_gdZ, if_true, if_false, if_neg h1, wA, wR, ok_put tw hI tr hlt rfl (by decide) (by decide) (by decide), bup_eq, bup_ne, upd_eq, upd_ne, hJ, e6, e7, e8, true_and, and_true]
        refine ⟨nn_add n 1, rl_15 [43, 44] [248] [0, 67] hr (ui_bup (ui_bup (ui_refl _ _) rfl) rfl) ?_ (ut_sz (ut_bup (ut_refl _) rfl)) rfl rfl rfl (put_Box (k0 := k0) hlt (by omega) ?_ ?_ ?_ ?_ hc) rfl⟩
        · exact uj_fld (uj_bup (uj_fld (uj_refl _ _ _) rfl) rfl (by decide)) rfl
        · rw [bup_eq, upd_eq]
        · rw [bup_eq, upd_eq]; exact nn_add n 1
        · rw [bup_ne _ _ (by decide), bup_eq, lnF1]
        · simp (decide := true) only [bup_eq, bup_ne]
    · have wA : F_A_within x 0 25 = rt 0 := wi_out out
      have wR : F_R_isIn x 0 25 = rt 0 := ri_out out
      simp (decide := true) only [ok_bn, ok_wr, ok_ite, ok_rt, ok_rd, ok_sr, ok_ld, ok_gdZ, if_true, if_false, if_neg h1, wA, wR]
      exact ⟨trivial, rl_told hr⟩
theorem c_sighted (x : Int32) (y : Int32) : Call (F_A_sighted x y) (F_R_sighted x y) := by
  refine call_of fun I J hr => ?_
  obtain ⟨⟨-, -, -, -, -, -, k7, -, -, -, -, -, -, -, -, -⟩, -, -, -, kc⟩ := id hr
  obtain ⟨n, hn, hI, hJ, hc⟩ := k7
  obtain ⟨tw, tr⟩ := con_at kc (t := 27) (w := 2) (r := 10) (by decide)
  unfold F_A_sighted F_R_sighted
  by_cases h1 : x = -1
  · simp only [ok_bn, ok_wr, ok_ite, if_pos h1, ok_wipe, ok_rt]
    exact ⟨trivial, rl_7 [27] [] [0, 44] hr (ui_bup (ui_refl _ _) rfl) (uj_fld (uj_fld (uj_refl _ _ _) rfl) rfl) (ut_sz (ut_refl _)) rfl rfl rfl ⟨0, by decide, rfl, rfl, fun i hi => absurd hi (by omega)⟩ rfl⟩
  · rcases rng (v := x) 0 99 (by decide) (by decide) with ⟨k0, a1, a2, rfl⟩ | out
    · have q := rng_in (by decide) a1 a2
      have wA : F_A_within (nn k0) 0 99 = rt 1 := wi_in q.1 q.2
      have wR : F_R_isIn (nn k0) 0 99 = rt 1 := ri_in q.1 q.2
      rcases rng (v := y) 0 9 (by decide) (by omega) with ⟨k1, b1, b2, rfl⟩ | out2
      · have q2 := rng_in (by decide) b1 b2
        have wA2 : F_A_within (nn k1) 0 9 = rt 1 := wi_in q2.1 q2.2
        have wR2 : F_R_isStreet (nn k1) = rt 1 := st_in q2.1 q2.2
        by_cases hf : n = 10
        · subst hf
          have e6 : J 207 44 = 10 := hJ
          simp (decide := true) only [ok_bn, ok_wr, ok_ite, ok_rt, ok_rd, ok_sr, ok_ld, ok_gdZ, if_true, if_false, if_neg h1, wA, wR, wA2, wR2, ok_putF hI tr (by decide) (by decide), bup_eq, upd_ne, e6]
          exact ⟨trivial, rl_told hr⟩
        · have hlt : n < 10 := by omega
          have e6 : ¬ nn n = 10 := nn_ne (by omega) (by decide) hf
          have e7 : inR (nn n) 10 = true := inR_nn hlt (by omega)
          have e8 : (nn n).toNatClampNeg = n := nn_nat (by omega)
          simp (decide := true) only [ok_bn, ok_wr, ok_ite, ok_rt, ok_rd, ok_sr, ok_ld, ok_gdZ, if_true, if_false, if_neg h1, wA, wR, wA2, wR2, ok_put tw hI tr hlt rfl (by decide) (by decide) (by decide), bup_eq, bup_ne, upd_eq, upd_ne, hJ, e6, e7, e8, true_and, and_true]
          refine ⟨nn_add n 1, rl_7 [27, 28] [231, 232] [0, 44] hr (ui_bup (ui_bup (ui_refl _ _) rfl) rfl) ?_ (ut_sz (ut_bup (ut_refl _) rfl)) rfl rfl rfl (put_Sig (k0 := k0) (k1 := k1) hlt (by omega) (by omega) ?_ ?_ ?_ ?_ ?_ hc) rfl⟩
          · exact uj_fld (uj_bup (uj_bup (uj_fld (uj_refl _ _ _) rfl) rfl (by decide)) rfl (by decide)) rfl
          · rw [bup_eq, upd_eq]
          · rw [bup_eq, upd_eq]; exact nn_add n 1
          · rw [bup_ne _ _ (by decide), bup_eq, lnF2]
          · simp (decide := true) only [bup_eq, bup_ne]
          · simp (decide := true) only [bup_eq, bup_ne]
      · have wA2 : F_A_within y 0 9 = rt 0 := wi_out out2
        have wR2 : F_R_isStreet y = rt 0 := st_out out2
        simp (decide := true) only [ok_bn, ok_wr, ok_ite, ok_rt, ok_rd, ok_sr, ok_ld, ok_gdZ, if_true, if_false, if_neg h1, wA, wR, wA2, wR2]
        exact ⟨trivial, rl_told hr⟩
    · have wA : F_A_within x 0 99 = rt 0 := wi_out out
      have wR : F_R_isIn x 0 99 = rt 0 := ri_out out
      simp (decide := true) only [ok_bn, ok_wr, ok_ite, ok_rt, ok_rd, ok_sr, ok_ld, ok_gdZ, if_true, if_false, if_neg h1, wA, wR]
      exact ⟨trivial, rl_told hr⟩
theorem c_bed (x : Int32) (y : Int32) : Call (F_A_bed x y) (F_R_bed x y) := by
  refine call_of fun I J hr => ?_
  obtain ⟨⟨-, -, -, -, -, -, -, -, -, -, -, -, -, k14, -, -⟩, -, -, -, kc⟩ := id hr
  obtain ⟨n, hn, hI, hJ, hc⟩ := k14
  obtain ⟨tw, tr⟩ := con_at kc (t := 41) (w := 2) (r := 8) (by decide)
  unfold F_A_bed F_R_bed
  by_cases h1 : x = -1
  · simp only [ok_bn, ok_wr, ok_ite, if_pos h1, ok_wipe, ok_rt]
    exact ⟨trivial, rl_14 [41] [] [0, 63] hr (ui_bup (ui_refl _ _) rfl) (uj_fld (uj_fld (uj_refl _ _ _) rfl) rfl) (ut_sz (ut_refl _)) rfl rfl rfl ⟨0, by decide, rfl, rfl, fun i hi => absurd hi (by omega)⟩ rfl⟩
  · rcases rng (v := x) 30 50 (by decide) (by decide) with ⟨k0, a1, a2, rfl⟩ | out
    · have q := rng_in (by decide) a1 a2
      have wA : F_A_within (nn k0) 30 50 = rt 1 := wi_in q.1 q.2
      have wR : F_R_isIn (nn k0) 30 50 = rt 1 := ri_in q.1 q.2
      rcases rng (v := y) k0 50 (by decide) (by omega) with ⟨k1, b1, b2, rfl⟩ | out2
      · have q2 := rng_in (by decide) b1 b2
        have wA2 : F_A_within (nn k1) (nn k0) 50 = rt 1 := wi_in q2.1 q2.2
        have wR2 : F_R_isIn (nn k1) (nn k0) 50 = rt 1 := ri_in q2.1 q2.2
        by_cases hf : n = 8
        · subst hf
          have e6 : J 207 63 = 8 := hJ
          simp (decide := true) only [ok_bn, ok_wr, ok_ite, ok_rt, ok_rd, ok_sr, ok_ld, ok_gdZ, if_true, if_false, if_neg h1, wA, wR, wA2, wR2, ok_putF hI tr (by decide) (by decide), bup_eq, upd_ne, e6]
          exact ⟨trivial, rl_told hr⟩
        · have hlt : n < 8 := by omega
          have e6 : ¬ nn n = 8 := nn_ne (by omega) (by decide) hf
          have e7 : inR (nn n) 8 = true := inR_nn hlt (by omega)
          have e8 : (nn n).toNatClampNeg = n := nn_nat (by omega)
          simp (decide := true) only [ok_bn, ok_wr, ok_ite, ok_rt, ok_rd, ok_sr, ok_ld, ok_gdZ, if_true, if_false, if_neg h1, wA, wR, wA2, wR2, ok_put tw hI tr hlt rfl (by decide) (by decide) (by decide), bup_eq, bup_ne, upd_eq, upd_ne, hJ, e6, e7, e8, true_and, and_true]
          refine ⟨nn_add n 1, rl_14 [41, 42] [245, 246] [0, 63] hr (ui_bup (ui_bup (ui_refl _ _) rfl) rfl) ?_ (ut_sz (ut_bup (ut_refl _) rfl)) rfl rfl rfl (put_Bed (k0 := k0) (k1 := k1) hlt (by omega) (by omega) ?_ ?_ ?_ ?_ ?_ hc) rfl⟩
          · exact uj_fld (uj_bup (uj_bup (uj_fld (uj_refl _ _ _) rfl) rfl (by decide)) rfl (by decide)) rfl
          · rw [bup_eq, upd_eq]
          · rw [bup_eq, upd_eq]; exact nn_add n 1
          · rw [bup_ne _ _ (by decide), bup_eq, lnF2]
          · simp (decide := true) only [bup_eq, bup_ne]
          · simp (decide := true) only [bup_eq, bup_ne]
      · have wA2 : F_A_within y (nn k0) 50 = rt 0 := wi_out out2
        have wR2 : F_R_isIn y (nn k0) 50 = rt 0 := ri_out out2
        simp (decide := true) only [ok_bn, ok_wr, ok_ite, ok_rt, ok_rd, ok_sr, ok_ld, ok_gdZ, if_true, if_false, if_neg h1, wA, wR, wA2, wR2]
        exact ⟨trivial, rl_told hr⟩
    · have wA : F_A_within x 30 50 = rt 0 := wi_out out
      have wR : F_R_isIn x 30 50 = rt 0 := ri_out out
      simp (decide := true) only [ok_bn, ok_wr, ok_ite, ok_rt, ok_rd, ok_sr, ok_ld, ok_gdZ, if_true, if_false, if_neg h1, wA, wR]
      exact ⟨trivial, rl_told hr⟩
theorem c_says (x : Int32) (y : Int32) (z : Int32) : Call (F_A_says x y z) (F_R_says x y z) := by
  refine call_of fun I J hr => ?_
  obtain ⟨⟨-, -, -, -, -, -, -, -, k9, -, -, -, -, -, -, -⟩, -, -, -, kc⟩ := id hr
  obtain ⟨n, hn, hI, hJ, hc⟩ := k9
  obtain ⟨tw, tr⟩ := con_at kc (t := 31) (w := 3) (r := 10) (by decide)
  unfold F_A_says F_R_says
  by_cases h1 : x = -1
  · simp only [ok_bn, ok_wr, ok_ite, if_pos h1, ok_wipe, ok_rt]
    exact ⟨trivial, rl_9 [31] [] [0, 53] hr (ui_bup (ui_refl _ _) rfl) (uj_fld (uj_fld (uj_refl _ _ _) rfl) rfl) (ut_sz (ut_refl _)) rfl rfl rfl ⟨0, by decide, rfl, rfl, fun i hi => absurd hi (by omega)⟩ rfl⟩
  · rcases rng (v := x) 0 7 (by decide) (by decide) with ⟨k0, a1, a2, rfl⟩ | out
    · have q := rng_in (by decide) a1 a2
      have wA : F_A_within (nn k0) 0 7 = rt 1 := wi_in q.1 q.2
      have wR : F_R_isIn (nn k0) 0 7 = rt 1 := ri_in q.1 q.2
      rcases rng (v := y) 0 7 (by decide) (by omega) with ⟨k1, b1, b2, rfl⟩ | out2
      · have q2 := rng_in (by decide) b1 b2
        have wA2 : F_A_within (nn k1) 0 7 = rt 1 := wi_in q2.1 q2.2
        have wR2 : F_R_isIn (nn k1) 0 7 = rt 1 := ri_in q2.1 q2.2
        by_cases hz : z = 0
        · skip
          by_cases hf : n = 10
          · subst hf
            have e6 : J 207 53 = 10 := hJ
            simp (decide := true) only [ok_bn, ok_wr, ok_ite, ok_rt, ok_rd, ok_sr, ok_ld, ok_gdZ, if_true, if_false, if_neg h1, wA, wR, wA2, wR2, if_pos hz, ok_putF hI tr (by decide) (by decide), bup_eq, upd_ne, e6]
            exact ⟨trivial, rl_told hr⟩
          · have hlt : n < 10 := by omega
            have e6 : ¬ nn n = 10 := nn_ne (by omega) (by decide) hf
            have e7 : inR (nn n) 10 = true := inR_nn hlt (by omega)
            have e8 : (nn n).toNatClampNeg = n := nn_nat (by omega)
            simp (decide := true) only [ok_bn, ok_wr, ok_ite, ok_rt, ok_rd, ok_sr, ok_ld, ok_gdZ, if_true, if_false, if_neg h1, wA, wR, wA2, wR2, if_pos hz, ok_put tw hI tr hlt rfl (by decide) (by decide) (by decide), bup_eq, bup_ne, upd_eq, upd_ne, hJ, e6, e7, e8, true_and, and_true]
            refine ⟨nn_add n 1, rl_9 [31, 32] [238, 239, 240] [0, 53] hr (ui_bup (ui_bup (ui_refl _ _) rfl) rfl) ?_ (ut_sz (ut_bup (ut_refl _) rfl)) rfl rfl rfl (put_Wrd (k0 := k0) (k1 := k1) (k2 := 0) hlt (by omega) (by omega) (by omega) ?_ ?_ ?_ ?_ ?_ ?_ hc) rfl⟩
            · exact uj_fld (uj_bup (uj_bup (uj_bup (uj_fld (uj_refl _ _ _) rfl) rfl (by decide)) rfl (by decide)) rfl (by decide)) rfl
            · rw [bup_eq, upd_eq]
            · rw [bup_eq, upd_eq]; exact nn_add n 1
            · rw [bup_ne _ _ (by decide), bup_eq, lnF3]; rfl
            · simp (decide := true) only [bup_eq, bup_ne]
            · simp (decide := true) only [bup_eq, bup_ne]
            · simp (decide := true) only [bup_eq, bup_ne]; rfl
        · skip
          by_cases hf : n = 10
          · subst hf
            have e6 : J 207 53 = 10 := hJ
            simp (decide := true) only [ok_bn, ok_wr, ok_ite, ok_rt, ok_rd, ok_sr, ok_ld, ok_gdZ, if_true, if_false, if_neg h1, wA, wR, wA2, wR2, if_neg hz, ok_putF hI tr (by decide) (by decide), bup_eq, upd_ne, e6]
            exact ⟨trivial, rl_told hr⟩
          · have hlt : n < 10 := by omega
            have e6 : ¬ nn n = 10 := nn_ne (by omega) (by decide) hf
            have e7 : inR (nn n) 10 = true := inR_nn hlt (by omega)
            have e8 : (nn n).toNatClampNeg = n := nn_nat (by omega)
            simp (decide := true) only [ok_bn, ok_wr, ok_ite, ok_rt, ok_rd, ok_sr, ok_ld, ok_gdZ, if_true, if_false, if_neg h1, wA, wR, wA2, wR2, if_neg hz, ok_put tw hI tr hlt rfl (by decide) (by decide) (by decide), bup_eq, bup_ne, upd_eq, upd_ne, hJ, e6, e7, e8, true_and, and_true]
            refine ⟨nn_add n 1, rl_9 [31, 32] [238, 239, 240] [0, 53] hr (ui_bup (ui_bup (ui_refl _ _) rfl) rfl) ?_ (ut_sz (ut_bup (ut_refl _) rfl)) rfl rfl rfl (put_Wrd (k0 := k0) (k1 := k1) (k2 := 1) hlt (by omega) (by omega) (by omega) ?_ ?_ ?_ ?_ ?_ ?_ hc) rfl⟩
            · exact uj_fld (uj_bup (uj_bup (uj_bup (uj_fld (uj_refl _ _ _) rfl) rfl (by decide)) rfl (by decide)) rfl (by decide)) rfl
            · rw [bup_eq, upd_eq]
            · rw [bup_eq, upd_eq]; exact nn_add n 1
            · rw [bup_ne _ _ (by decide), bup_eq, lnF3]; rfl
            · simp (decide := true) only [bup_eq, bup_ne]
            · simp (decide := true) only [bup_eq, bup_ne]
            · simp (decide := true) only [bup_eq, bup_ne]; rfl
      · have wA2 : F_A_within y 0 7 = rt 0 := wi_out out2
        have wR2 : F_R_isIn y 0 7 = rt 0 := ri_out out2
        simp (decide := true) only [ok_bn, ok_wr, ok_ite, ok_rt, ok_rd, ok_sr, ok_ld, ok_gdZ, if_true, if_false, if_neg h1, wA, wR, wA2, wR2]
        exact ⟨trivial, rl_told hr⟩
    · have wA : F_A_within x 0 7 = rt 0 := wi_out out
      have wR : F_R_isIn x 0 7 = rt 0 := ri_out out
      simp (decide := true) only [ok_bn, ok_wr, ok_ite, ok_rt, ok_rd, ok_sr, ok_ld, ok_gdZ, if_true, if_false, if_neg h1, wA, wR]
      exact ⟨trivial, rl_told hr⟩
end TC1
