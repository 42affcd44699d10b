/-! memory: fields, rows, what is made -/
section SIMM
variable {E : EV} {SOK : State → Prop} {mi : PInf} {x : CTX} {d pc : Nat} {ls st : List Value} {h : PH}
theorem vp_of_inR {i : Int32} {n : Nat} (h : inR i n = true) : vp_in i n := by
  unfold inR at h
  simp only [Bool.and_eq_true, Bool.not_eq_true', decide_eq_false_iff_not, decide_eq_true_eq] at h
  rintro (q | q)
  · exact h.1 q
  · omega
theorem knd_at {sh : List (Nat × Nat)} {a c : Nat} (hc : c < 9999) (h : knd sh a = c) : ∃ n, sh[a]? = some (c, n) := by
  unfold knd at h
  split at h
  · rename_i c' hc'
    exact ⟨c'.2, by rw [hc', ← h]⟩
  · omega
theorem siz_at {sh : List (Nat × Nat)} {a : Nat} {c : Nat × Nat} (h : sh[a]? = some c) : siz sh a = c.2 := by
  unfold siz
  rw [h]
theorem isObj_at {sh : List (Nat × Nat)} {a c : Nat} (hc : c < 13) (h : isObj sh a c = true) (hs : ShOK sh) : ∃ n, sh[a]? = some (c + 2, n) ∧ pN[c]? = some n := by
  obtain ⟨n, hn⟩ := knd_at (by omega) (beq_iff_eq.mp h)
  exact ⟨n, hn, hs.2 a c n hn⟩
theorem isArr_at {sh : List (Nat × Nat)} {a : Nat} (h : isArr sh a = true) : sh[a]? = some (0, siz sh a) := by
  obtain ⟨n, hn⟩ := knd_at (by omega) (beq_iff_eq.mp h)
  rw [siz_at hn]
  exact hn
theorem isRow_at {sh : List (Nat × Nat)} {a : Nat} (h : isRow sh a = true) : sh[a]? = some (1, siz sh a) := by
  obtain ⟨n, hn⟩ := knd_at (by omega) (beq_iff_eq.mp h)
  rw [siz_at hn]
  exact hn
theorem J_after {h1 : PH} {H H1 : Heap} {locs1 : List Loc} {cells slots : Nat} {lsM : Array Slot} {ls1 st1 : List Value} (k : J E mi x pc ls1 st1 h1) (C : Ctx E SOK mi x d) (g1 : HP E h H) (hl : eB E + h1.1.length ≤ H1.size) (hsh : ShOK h1.1) (hP1 : va_P (eD E) pcl (wsOf E h1) H1)
    (hS1 : va_S (fun q => eB E ≤ q) H H1 locs1) (g3 : lv_has lsM mi.2.2.1 (locL E ls1)) (g4 : ls1.length = mi.2.2.1) (g5 : cells + xn x = h1.1.length) (g6 : slots + xt x = tot h1.1) (g7 : cells ≤ (xR x).cells) (g8 : slots ≤ (xR x).slots) : WX x H1 locs1 cells slots (F0 (xm x) pc lsM (st1.map (va E))) := by
  refine W_size (fun hz => ?_)
  have e1 : (xs x).heap.size = eB E + xn x := C.2.2.2.2.2.2.2.2.1
  have e2 : H.size = eB E + h.1.length := g1.2.1
  have e3 : H1.size = eB E + h1.1.length := by omega
  exact k H1 locs1 cells slots lsM ⟨hP1, e3, fun q hq => (hS1.2.1 q (by omega) (by show ¬ eB E ≤ q; omega)).trans (g1.2.2.1 q hq), hsh⟩ hS1.2.2 g3 g4 g5 g6 g7 g8
theorem wsOf_set {h1 : PH} {a : Nat} {c : Nat × Nat} {e : va_E} (hs : h1.1 = h.1) (hc : h.1[a]? = some c) (he : e = cellE E h1 a c) (ho : ∀ (j : Nat) (cc : Nat × Nat), j ≠ a → cellE E h1 j cc = cellE E h j cc) : (wsOf E h).set a (ad E a, e) = wsOf E h1 := by
  apply List.ext_getElem?
  intro j
  by_cases hj : j = a
  · subst hj
    have hlt : j < (wsOf E h).length := by rw [wsOf_len]; exact (List.getElem?_eq_some_iff.mp hc).1
    rw [List.getElem?_set_self hlt, wsOf_at (by rw [hs]; exact hc), he]
  · rw [List.getElem?_set_ne (Ne.symm hj)]
    simp only [wsOf, List.getElem?_mapIdx, hs]
    cases hx : h.1[j]? with
    | none => rfl
    | some cc => simp only [Option.map_some, ho j cc hj]
theorem wsOf_push {h1 : PH} {c : Nat × Nat} (hs : h1.1 = h.1 ++ [c]) (ho : ∀ (j : Nat) (cc : Nat × Nat), j < h.1.length → cellE E h1 j cc = cellE E h j cc) : wsOf E h1 = wsOf E h ++ [(ad E h.1.length, cellE E h1 h.1.length c)] := by
  apply List.ext_getElem?
  intro j
  simp only [wsOf, List.getElem?_mapIdx, hs]
  rcases Nat.lt_trichotomy j h.1.length with q | q | q
  · rw [List.getElem?_append_left q, List.getElem?_append_left (by simp; exact q), List.getElem?_mapIdx, List.getElem?_eq_getElem q]
    simp only [Option.map_some, ho j _ q]
  · subst q
    rw [List.getElem?_append_right (Nat.le_refl _), List.getElem?_append_right (by simp)]
    simp
  · rw [List.getElem?_append_right (by omega), List.getElem?_append_right (by simp; omega)]
    have e1 : j - h.1.length = (j - h.1.length - 1) + 1 := by omega
    have e2 : j - (List.mapIdx (fun a c => (ad E a, cellE E h a c)) h.1).length = (j - h.1.length - 1) + 1 := by simp; omega
    rw [e1, e2]
    simp
theorem q_new {H1 : Heap} {q : Nat} {e : va_E} {D : va_G} {cl : List vw_C} (hs : ShOK h.1) (hP1 : va_P D cl (wsOf E h ++ [(q, e)]) H1) (hD1 : va_D (fun q => eB E ≤ q) (wsOf E h ++ [(q, e)])) (hz : H1.size ≤ eB E + h.1.length + 1) : q = ad E h.1.length := by
  have hlast : (wsOf E h ++ [(q, e)])[h.1.length]? = some (q, e) := by
    rw [List.getElem?_append_right (by rw [wsOf_len]; exact Nat.le_refl _), wsOf_len]
    simp
  have hlt : q < H1.size := (hP1 _ _ hlast).lt
  have hge : eB E ≤ q := hD1.2 _ _ hlast
  have hs1 := hs.1
  rw [ad_lt (by omega)]
  rcases Nat.lt_or_ge q (eB E + h.1.length) with z | z
  · have hk : q - eB E < h.1.length := by omega
    have hat := wsOf_at (E := E) (List.getElem?_eq_getElem hk)
    have hat2 : (wsOf E h ++ [(q, e)])[q - eB E]? = some (ad E (q - eB E), cellE E h (q - eB E) h.1[q - eB E]) := by
      rw [List.getElem?_append_left (by rw [wsOf_len]; exact hk)]
      exact hat
    have := hD1.1 _ _ _ _ hat2 hlast (by rw [ad_lt (by omega)]; show eB E + (q - eB E) = q; omega)
    omega
  · omega
theorem tot_push (sh : List (Nat × Nat)) (k n : Nat) : tot (sh ++ [(k, n)]) = tot sh + n := by simp [tot]
theorem range_set {α : Type} (f : Nat → α) (n k : Nat) (v : α) : ((List.range n).map f).set k v = (List.range n).map (fun j => if j = k then v else f j) := by
  apply List.ext_getElem?
  intro j
  by_cases hj : j = k
  · subst hj
    by_cases hl : j < n
    · rw [List.getElem?_set_self (by simpa using hl)]
      simp [hl]
    · rw [List.getElem?_eq_none (by simp; omega), List.getElem?_eq_none (by simp; omega)]
  · rw [List.getElem?_set_ne (Ne.symm hj)]
    by_cases hl : j < n
    · simp [hl, hj]
    · rw [List.getElem?_eq_none (by simp; omega), List.getElem?_eq_none (by simp; omega)]
theorem nf_int {t : FieldType} {k : Nat} {v : Int32} (h : tyFit t k = true) (hk : k = 0 ∨ (k = 1 ∧ (v = 0 ∨ v = 1))) : narrow t (.int v) = .int v ∧ fits t (.int v) = true := by
  rcases hk with rfl | ⟨rfl, rfl | rfl⟩ <;> cases t <;> simp [tyFit] at h <;> exact ⟨rfl, rfl⟩
theorem nf_ref {t : FieldType} {a : Nat} (h : tyFit t 2 = true) : narrow t (.ref a) = .ref a ∧ fits t (.ref a) = true := by
  cases t <;> simp [tyFit] at h <;> exact ⟨rfl, rfl⟩
theorem s_getfield {n i a : Nat} {v : Value} (C : Ctx E SOK mi x d) (hd : decode mi.2.1 pc = .ok (.getfield i, 3)) (hf : has3 pFL mi.2.2.2.2.1 i n = true) (ho : isObj h.1 a (n / 128) = true) (hv : va E v = fV E h (n / 128) a (n % 128)) (k : J E mi x (pc + 3) ls (v :: st) h) : J E mi x pc ls (.ref a :: st) h := by
  intro H locs cells slots lsM g1 g2 g3 g4 g5 g6 g7 g8
  obtain ⟨q, hq, hk, hl, hsame⟩ := fl_fact hf
  obtain ⟨c1, c2, c3, c4, c5, c6, c7, c8⟩ := pcl_fact hq
  obtain ⟨N, hN1, hN2⟩ := isObj_at (List.getElem?_eq_some_iff.mp hq).1 ho g1.2.2.2
  have hN : N = q.2.2 := Option.some.inj (hN2.symm.trans c7)
  subst hN
  have hat := wsOf_at (E := E) hN1
  refine va_get (C := q.1) (T := q.2.1) (N := q.2.2) (ref := q.1) (index := i) C.1 C.2.1 C.2.2.2.2.1 c1 C.2.2.2.1 C.2.2.2.2.2.1.1 g1.1 a hat hq (n % 128) hk (C.2.2.2.2.1 _ hl) (fun y hy => by rw [hsame] at hy; exact hy) (v := va E v) ?_ hd (k H locs cells slots lsM g1 g2 g3 g4 g5 g6 g7 g8)
  rw [hv]
  simp [hk]
theorem s_put {n i a : Nat} {v : Value} {h1 : PH} (C : Ctx E SOK mi x d) (hd : decode mi.2.1 pc = .ok (.putfield i, 3)) (hf : has3 pFL mi.2.2.2.2.1 i n = true) (hfin : finOK mi.2.2.2.2.1 mi.2.2.2.2.2 n = true) (ho : isObj h.1 a (n / 128) = true) (hsh : h1.1 = h.1)
    (hnf : ∀ t, tyFit t (ftyOf pF (n / 128) (n % 128)) = true → narrow t (va E v) = va E v ∧ fits t (va E v) = true) (hcell : ∀ N, n % 128 < N → cellE E h1 a (n / 128 + 2, N) = .inr (n / 128, ((List.range N).map (fV E h (n / 128) a)).set (n % 128) (va E v)))
    (hoth : ∀ (j : Nat) (cc : Nat × Nat), j ≠ a → cellE E h1 j cc = cellE E h j cc) (k : J E mi x (pc + 3) ls st h1) : J E mi x pc ls (v :: .ref a :: st) h := by
  intro H locs cells slots lsM g1 g2 g3 g4 g5 g6 g7 g8
  obtain ⟨q, hq, hk, hl, hsame⟩ := fl_fact hf
  obtain ⟨c1, c2, c3, c4, c5, c6, c7, c8⟩ := pcl_fact hq
  obtain ⟨N, hN1, hN2⟩ := isObj_at (List.getElem?_eq_some_iff.mp hq).1 ho g1.2.2.2
  have hN : N = q.2.2 := Option.some.inj (hN2.symm.trans c7)
  subst hN
  have hat := wsOf_at (E := E) hN1
  have hnf1 := hnf _ (c3 _ hk)
  have hS : va_S (fun q => eB E ≤ q) H H locs := ⟨Nat.le_refl _, fun _ _ _ => rfl, g2⟩
  have hset := wsOf_set (E := E) (h := h) (h1 := h1) hsh hN1 (hcell _ hk).symm hoth
  have fin : ∀ (H1 : Heap) (locs1 : List Loc), va_P (eD E) pcl ((wsOf E h).set a (ad E a, .inr (n / 128, ((List.range q.2.2).map (fV E h (n / 128) a)).set (n % 128) (va E v)))) H1 → va_S (fun q => eB E ≤ q) H H1 locs1 → WX x H1 locs1 cells slots (F0 (xm x) (pc + 3) lsM (st.map (va E))) := by
    intro H1 locs1 hP1 hS1
    rw [hset] at hP1
    refine J_after k C g1 ?_ (by rw [hsh]; exact g1.2.2.2) hP1 hS1 g3 g4 (by rw [hsh]; exact g5) (by rw [hsh]; exact g6) g7 g8
    rw [hsh, ← g1.2.1]
    exact hS1.1
  unfold finOK at hfin
  rw [hq] at hfin
  simp only [Bool.or_eq_true, Bool.not_eq_true', Bool.and_eq_true, beq_iff_eq] at hfin
  by_cases hfn : (q.2.1 (n % 128)).2.2.2 = true
  · rcases hfin with z | ⟨z1, z2⟩
    · rw [z] at hfn; cases hfn
    · exact va_putF (C := q.1) (T := q.2.1) (N := q.2.2) (ref := q.1) (index := i) C.1 C.2.1 C.2.2.2.2.1 c1 (tyOf q) c2 c4 C.2.2.2.1 C.2.2.2.2.2.1.1 g1.1 (wsOf_D g1.2.2.2) hS a hat hq (n % 128) hk (C.2.2.2.2.1 _ hl) (fun y hy => by rw [hsame] at hy; exact hy) hfn (C.2.2.2.2.2.2.2.1 z1) z2 (c2 _ hk) hnf1.1 hnf1.2 (by simpa using hk) hd (fun H1 locs1 hP1 _ hS1 => fin H1 locs1 hP1 hS1)
  · exact va_put (C := q.1) (T := q.2.1) (N := q.2.2) (ref := q.1) (index := i) C.1 C.2.1 C.2.2.2.2.1 c1 (tyOf q) c2 c4 C.2.2.2.1 C.2.2.2.2.2.1.1 g1.1 (wsOf_D g1.2.2.2) hS a hat hq (n % 128) hk (C.2.2.2.2.1 _ hl) (fun y hy => by rw [hsame] at hy; exact hy) (by simpa using hfn) (c2 _ hk) hnf1.1 hnf1.2 (by simpa using hk) hd (fun H1 locs1 hP1 _ hS1 => fin H1 locs1 hP1 hS1)
theorem cell_bupI {a j : Nat} {g : Nat → Int32} {cc : Nat × Nat} (hj : j ≠ a) : cellE E (h.1, h.2.1, bup h.2.2 a g) j cc = cellE E h j cc := by
  have e : bup h.2.2 a g j = h.2.2 j := if_neg hj
  unfold cellE
  split
  · dsimp only; rw [e]
  · rfl
  · congr 2
    apply List.map_congr_left
    intro i _
    unfold fV
    dsimp only
    rw [e]
theorem cell_bupR {a j : Nat} {g : Nat → Option Nat} {cc : Nat × Nat} (hj : j ≠ a) : cellE E (h.1, bup h.2.1 a g, h.2.2) j cc = cellE E h j cc := by
  have e : bup h.2.1 a g j = h.2.1 j := if_neg hj
  unfold cellE
  split
  · rfl
  · dsimp only; rw [e]
  · congr 2
    apply List.map_congr_left
    intro i _
    unfold fV
    dsimp only
    rw [e]
theorem s_putI {n i a : Nat} {v : Int32} (C : Ctx E SOK mi x d) (hd : decode mi.2.1 pc = .ok (.putfield i, 3)) (hf : has3 pFL mi.2.2.2.2.1 i n = true) (hfin : finOK mi.2.2.2.2.1 mi.2.2.2.2.2 n = true) (ho : isObj h.1 a (n / 128) = true) (hty : ftyOf pF (n / 128) (n % 128) = 0 ∨ (ftyOf pF (n / 128) (n % 128) = 1 ∧ (v = 0 ∨ v = 1)))
    (k : J E mi x (pc + 3) ls st (h.1, h.2.1, bup h.2.2 a (upd (h.2.2 a) (n % 128) v))) : J E mi x pc ls (.int v :: .ref a :: st) h := by
  refine s_put (h1 := (h.1, h.2.1, bup h.2.2 a (upd (h.2.2 a) (n % 128) v))) C hd hf hfin ho rfl (fun t ht => nf_int ht hty) (fun N hN => ?_) (fun j cc hj => cell_bupI hj) k
  rw [range_set]
  show Sum.inr (n / 128, _) = _
  congr 2
  apply List.map_congr_left
  intro j hj
  have e : bup h.2.2 a (upd (h.2.2 a) (n % 128) v) a = upd (h.2.2 a) (n % 128) v := if_pos rfl
  unfold fV
  dsimp only
  rw [e]
  by_cases hjk : j = n % 128
  · subst hjk
    rw [if_pos rfl, if_neg (by rcases hty with z | ⟨z, -⟩ <;> omega)]
    show Value.int (upd _ _ _ _) = _
    rw [pk_us]
    rfl
  · rw [if_neg hjk]
    show (if _ then _ else Value.int (upd _ _ _ _)) = _
    rw [pk_un hjk]
theorem s_putR {n i a v : Nat} (C : Ctx E SOK mi x d) (hd : decode mi.2.1 pc = .ok (.putfield i, 3)) (hf : has3 pFL mi.2.2.2.2.1 i n = true) (hfin : finOK mi.2.2.2.2.1 mi.2.2.2.2.2 n = true) (ho : isObj h.1 a (n / 128) = true) (hty : ftyOf pF (n / 128) (n % 128) = 2)
    (k : J E mi x (pc + 3) ls st (h.1, bup h.2.1 a (va_up (h.2.1 a) (n % 128) (some v)), h.2.2)) : J E mi x pc ls (.ref v :: .ref a :: st) h := by
  refine s_put (h1 := (h.1, bup h.2.1 a (va_up (h.2.1 a) (n % 128) (some v)), h.2.2)) C hd hf hfin ho rfl (fun t ht => nf_ref (by rw [hty] at ht; exact ht)) (fun N hN => ?_) (fun j cc hj => cell_bupR hj) k
  rw [range_set]
  show Sum.inr (n / 128, _) = _
  congr 2
  apply List.map_congr_left
  intro j hj
  have e : bup h.2.1 a (va_up (h.2.1 a) (n % 128) (some v)) a = va_up (h.2.1 a) (n % 128) (some v) := if_pos rfl
  unfold fV
  dsimp only
  rw [e]
  by_cases hjk : j = n % 128
  · subst hjk
    rw [if_pos rfl, if_pos hty, va_up_self]
    rfl
  · rw [if_neg hjk, va_up_ne _ _ hjk]
theorem s_iaload {a : Nat} {i : Int32} (C : Ctx E SOK mi x d) (hd : decode mi.2.1 pc = .ok (.iaload, 1)) (ho : isArr h.1 a = true) (hi : inR i (siz h.1 a) = true) (k : J E mi x (pc + 1) ls (.int (h.2.2 a i.toNatClampNeg) :: st) h) : J E mi x pc ls (.int i :: .ref a :: st) h := by
  intro H locs cells slots lsM g1 g2 g3 g4 g5 g6 g7 g8
  exact va_iald C.1 C.2.1 C.2.2.2.2.2.1.1 g1.1 a 0 (wsOf_at (E := E) (isArr_at ho)) rfl (vp_of_inR hi) hd (k H locs cells slots lsM g1 g2 g3 g4 g5 g6 g7 g8)
theorem s_arraylength {a : Nat} (C : Ctx E SOK mi x d) (hd : decode mi.2.1 pc = .ok (.arraylength, 1)) (ho : isArr h.1 a = true) (k : J E mi x (pc + 1) ls (.int (Int32.ofNat (siz h.1 a)) :: st) h) : J E mi x pc ls (.ref a :: st) h := by
  intro H locs cells slots lsM g1 g2 g3 g4 g5 g6 g7 g8
  exact va_alen C.1 C.2.1 C.2.2.2.2.2.1.1 g1.1 a 0 (wsOf_at (E := E) (isArr_at ho)) rfl rfl hd (k H locs cells slots lsM g1 g2 g3 g4 g5 g6 g7 g8)
theorem s_iastore {a : Nat} {i v : Int32} (C : Ctx E SOK mi x d) (hd : decode mi.2.1 pc = .ok (.iastore, 1)) (ho : isArr h.1 a = true) (hi : inR i (siz h.1 a) = true) (k : J E mi x (pc + 1) ls st (h.1, h.2.1, bup h.2.2 a (upd (h.2.2 a) i.toNatClampNeg v))) : J E mi x pc ls (.int v :: .int i :: .ref a :: st) h := by
  intro H locs cells slots lsM g1 g2 g3 g4 g5 g6 g7 g8
  have hS : va_S (fun q => eB E ≤ q) H H locs := ⟨Nat.le_refl _, fun _ _ _ => rfl, g2⟩
  refine va_iast C.1 C.2.1 C.2.2.2.2.2.1.1 g1.1 (wsOf_D g1.2.2.2) hS a 0 (wsOf_at (E := E) (isArr_at ho)) rfl (vp_of_inR hi) hd (fun H1 locs1 hP1 hD1 hS1 => ?_)
  have e : bup h.2.2 a (upd (h.2.2 a) i.toNatClampNeg v) a = upd (h.2.2 a) i.toNatClampNeg v := if_pos rfl
  rw [wsOf_set (E := E) (h := h) (h1 := (h.1, h.2.1, bup h.2.2 a (upd (h.2.2 a) i.toNatClampNeg v))) rfl (isArr_at ho) (by unfold cellE; dsimp only; rw [e]) (fun j cc hj => cell_bupI hj)] at hP1
  exact J_after k C g1 (by show eB E + h.1.length ≤ _; rw [← g1.2.1]; exact hS1.1) g1.2.2.2 hP1 hS1 g3 g4 g5 g6 g7 g8
theorem s_aaload {a : Nat} {i : Int32} (C : Ctx E SOK mi x d) (hd : decode mi.2.1 pc = .ok (.aaload, 1)) (ho : isRow h.1 a = true) (hi : inR i (siz h.1 a) = true) (hr : rfs h.2.1 a i.toNatClampNeg = true) (k : J E mi x (pc + 1) ls (.ref (rfd h.2.1 a i.toNatClampNeg) :: st) h) : J E mi x pc ls (.int i :: .ref a :: st) h := by
  intro H locs cells slots lsM g1 g2 g3 g4 g5 g6 g7 g8
  refine va_aldq C.1 C.2.1 C.2.2.2.2.2.1.1 g1.1 a 1 (wsOf_at (E := E) (isRow_at ho)) rfl (vp_of_inR hi) hd ?_
  have e : va_rf ((h.2.1 a i.toNatClampNeg).map (ad E)) = .ref (ad E (rfd h.2.1 a i.toNatClampNeg)) := by
    unfold rfs at hr
    unfold rfd
    cases hx : h.2.1 a i.toNatClampNeg with
    | none => rw [hx] at hr; cases hr
    | some y => rfl
  rw [e]
  exact k H locs cells slots lsM g1 g2 g3 g4 g5 g6 g7 g8
theorem s_aastore {a v : Nat} {i : Int32} (C : Ctx E SOK mi x d) (hd : decode mi.2.1 pc = .ok (.aastore, 1)) (ho : isRow h.1 a = true) (hi : inR i (siz h.1 a) = true) (hv : isObj h.1 v 10 = true) (k : J E mi x (pc + 1) ls st (h.1, bup h.2.1 a (va_up (h.2.1 a) i.toNatClampNeg (some v)), h.2.2)) : J E mi x pc ls (.ref v :: .int i :: .ref a :: st) h := by
  intro H locs cells slots lsM g1 g2 g3 g4 g5 g6 g7 g8
  have hS : va_S (fun q => eB E ≤ q) H H locs := ⟨Nat.le_refl _, fun _ _ _ => rfl, g2⟩
  obtain ⟨N, hN1, hN2⟩ := isObj_at (by omega) hv g1.2.2.2
  refine va_astq (ci := 10) (r := (cR10, cT10, 19)) C.1 C.2.1 C.2.2.2.2.2.1.1 g1.1 (wsOf_D g1.2.2.2) hS a 1 v (wsOf_at (E := E) (isRow_at ho)) rfl (wsOf_at (E := E) hN1) rfl (vp_of_inR hi) hd (fun H1 locs1 hP1 hD1 hS1 => ?_)
  have e : bup h.2.1 a (va_up (h.2.1 a) i.toNatClampNeg (some v)) a = va_up (h.2.1 a) i.toNatClampNeg (some v) := if_pos rfl
  have e2 : (fun j => (va_up (h.2.1 a) i.toNatClampNeg (some v) j).map (ad E)) = va_up (fun j => (h.2.1 a j).map (ad E)) i.toNatClampNeg (some (ad E v)) := by
    funext j
    by_cases hj : j = i.toNatClampNeg
    · subst hj; rw [va_up_self, va_up_self]; rfl
    · rw [va_up_ne _ _ hj, va_up_ne _ _ hj]
  rw [wsOf_set (E := E) (h := h) (h1 := (h.1, bup h.2.1 a (va_up (h.2.1 a) i.toNatClampNeg (some v)), h.2.2)) rfl (isRow_at ho) (by unfold cellE; dsimp only; rw [e, e2]) (fun j cc hj => cell_bupR hj)] at hP1
  exact J_after k C g1 (by show eB E + h.1.length ≤ _; rw [← g1.2.1]; exact hS1.1) g1.2.2.2 hP1 hS1 g3 g4 g5 g6 g7 g8
end SIMM
