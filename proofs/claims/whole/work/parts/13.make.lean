/-! what makes cells, copies, the script, the JDK's members -/
section SIMK
variable {E : EV} {SOK : State → Prop} {mi : PInf} {x : CTX} {d pc : Nat} {ls st : List Value} {h : PH}
theorem J_new {h1 : PH} {c : Nat × Nat} {H H1 : Heap} {locs : List Loc} {cells slots q : Nat} {lsM : Array Slot} {ls1 st1 : List Value} (k : J E mi x pc ls1 (.ref h.1.length :: st1) h1) (C : Ctx E SOK mi x d) (g1 : HP E h H) (hs : h1.1 = h.1 ++ [c]) (hlt : h.1.length < 100000)
    (hN : ∀ k n, c = (k + 2, n) → pN[k]? = some n) (ho : ∀ (j : Nat) (cc : Nat × Nat), j < h.1.length → cellE E h1 j cc = cellE E h j cc) (hP1 : va_P (eD E) pcl (wsOf E h ++ [(q, cellE E h1 h.1.length c)]) H1) (hD1 : va_D (fun q => eB E ≤ q) (wsOf E h ++ [(q, cellE E h1 h.1.length c)]))
    (hS1 : va_S (fun q => eB E ≤ q) H H1 locs) (g3 : lv_has lsM mi.2.2.1 (locL E ls1)) (g4 : ls1.length = mi.2.2.1) (g5 : cells + xn x = h.1.length) (g6 : slots + xt x = tot h.1) (g7 : cells + 1 ≤ (xR x).cells) (g8 : slots + c.2 ≤ (xR x).slots) : WX x H1 locs (cells + 1) (slots + c.2) (F0 (xm x) pc lsM (.ref q :: st1.map (va E))) := by
  refine W_size (fun hz => ?_)
  have e1 : (xs x).heap.size = eB E + xn x := C.2.2.2.2.2.2.2.2.1
  have hq : q = ad E h.1.length := q_new g1.2.2.2 hP1 hD1 (by omega)
  subst hq
  have hlast : (wsOf E h ++ [(ad E h.1.length, cellE E h1 h.1.length c)])[h.1.length]? = some (ad E h.1.length, cellE E h1 h.1.length c) := by
    rw [List.getElem?_append_right (by rw [wsOf_len]; exact Nat.le_refl _), wsOf_len]
    simp
  have hlt2 : ad E h.1.length < H1.size := (hP1 _ _ hlast).lt
  rw [ad_lt (by omega)] at hlt2
  rw [← wsOf_push hs ho] at hP1
  have hlen : h1.1.length = h.1.length + 1 := by rw [hs]; simp
  refine J_after (h := h) k C g1 (by rw [hlen]; omega) ⟨by rw [hlen]; omega, fun a c' n ha => ?_⟩ hP1 hS1 g3 g4 (by rw [hlen]; omega) ?_ g7 g8
  · rw [hs] at ha
    rcases Nat.lt_or_ge a h.1.length with z | z
    · rw [List.getElem?_append_left z] at ha
      exact g1.2.2.2.2 a c' n ha
    · rw [List.getElem?_append_right z] at ha
      have hz0 : a - h.1.length < 1 := (List.getElem?_eq_some_iff.mp ha).1
      rw [show a - h.1.length = 0 by omega] at ha
      exact hN c' n (Option.some.inj ha)
  · obtain ⟨c1, c2⟩ := c
    rw [hs, tot_push]
    omega
theorem cell_new {kn : Nat × Nat} {j : Nat} {cc : Nat × Nat} (hj : j < h.1.length) : cellE E (h.1 ++ [kn], bup h.2.1 h.1.length (fun _ => none), bup h.2.2 h.1.length (fun _ => 0)) j cc = cellE E h j cc := by
  have e1 : bup h.2.1 h.1.length (fun _ => none) j = h.2.1 j := if_neg (by omega)
  have e2 : bup h.2.2 h.1.length (fun _ => (0 : Int32)) j = h.2.2 j := if_neg (by omega)
  unfold cellE
  split
  · dsimp only; rw [e2]
  · dsimp only; rw [e1]
  · congr 2
    apply List.map_congr_left
    intro i _
    unfold fV
    dsimp only
    rw [e1, e2]
theorem ra_int {E : EV} {cA : ClassId} {U : State} {k : Nat} {tys : List (ClassId × FieldType)} (hK : va_K (eD E) pcl (tysE E) U) (hK1 : va_K (eD E) pcl tys U) (hk : tys[k]? = some (cA, .int)) : cA = eI E := by
  have h1 := (hK.2 0 (eI E, .int) rfl).2
  have h2 := (hK1.2 k (cA, .int) hk).2
  have h3 : U.vm.findClass ("[" ++ (FieldType.int).toString) = some (eI E) := h1
  have h4 : U.vm.findClass ("[" ++ (FieldType.int).toString) = some cA := h2
  exact Option.some.inj (h4.symm.trans h3)
theorem ra_row {E : EV} {cA : ClassId} {U : State} {k : Nat} {tys : List (ClassId × FieldType)} (hK : va_K (eD E) pcl (tysE E) U) (hK1 : va_K (eD E) pcl tys U) (hk : tys[k]? = some (cA, .object "AliasHouse$World")) : cA = eW E := by
  have h1 := (hK.2 1 (eW E, .object "AliasHouse$World") rfl).2
  have h2 := (hK1.2 k (cA, .object "AliasHouse$World") hk).2
  obtain ⟨_, _, -, -, -, h3⟩ := h1
  obtain ⟨_, _, -, -, -, h4⟩ := h2
  exact Option.some.inj (h4.symm.trans h3)
theorem s_newarray {n : Int32} (C : Ctx E SOK mi x d) (hd : decode mi.2.1 pc = .ok (.newarray .int, 2)) (hn : ¬ n < 0) (hn2 : n.toNatClampNeg ≤ 100000) (hlt : h.1.length < 100000) (hc : h.1.length + 1 ≤ xn x + (xR x).cells) (hs : tot h.1 + n.toNatClampNeg ≤ xt x + (xR x).slots)
    (k : J E mi x (pc + 2) ls (.ref h.1.length :: st) (h.1 ++ [(0, n.toNatClampNeg)], bup h.2.1 h.1.length (fun _ => none), bup h.2.2 h.1.length (fun _ => 0))) : J E mi x pc ls (.int n :: st) h := by
  intro H locs cells slots lsM g1 g2 g3 g4 g5 g6 g7 g8
  have hS : va_S (fun q => eB E ≤ q) H H locs := ⟨Nat.le_refl _, fun _ _ _ => rfl, g2⟩
  have e2 : bup h.2.2 h.1.length (fun _ => (0 : Int32)) h.1.length = fun _ => 0 := if_pos rfl
  refine va_newa (atype := .int) (ty := .int) (N' := n.toNatClampNeg) (a0 := (n.toNatClampNeg, .inl (fun _ => 0))) C.1 C.2.1 (C.2.2.2.2.1 _ w_arrint) rfl C.2.2.2.2.2.1.1 g1.1 (wsOf_D g1.2.2.2) hS (fun q hq => ?_) (fun cA => rfl) hn rfl (by show _ * 4 ≤ _; omega) (by omega) (by omega) hd (fun q cA H1 hK1 hP1 hD1 hS1 => ?_)
  · show eB E ≤ q
    have := g1.2.1
    omega
  · have hcA : cA = eI E := ra_int C.2.2.2.2.2.1.1 hK1 (k := 2) rfl
    subst hcA
    refine J_new (h := h) (h1 := (h.1 ++ [(0, n.toNatClampNeg)], bup h.2.1 h.1.length (fun _ => none), bup h.2.2 h.1.length (fun _ => 0))) (c := (0, n.toNatClampNeg)) k C g1 rfl hlt (fun k n h => by cases h) (fun j cc hj => cell_new hj) ?_ ?_ hS1 g3 g4 g5 g6 (by omega) (by show slots + n.toNatClampNeg ≤ _; omega)
    · unfold cellE; dsimp only; rw [e2]; exact hP1
    · unfold cellE; dsimp only; rw [e2]; exact hD1
theorem s_anewarray {n : Int32} {i : Nat} (C : Ctx E SOK mi x d) (hd : decode mi.2.1 pc = .ok (.anewarray i, 3)) (hf : has3 pCL mi.2.2.2.2.1 i 10 = true) (hn : ¬ n < 0) (hn2 : n.toNatClampNeg ≤ 100000) (hlt : h.1.length < 100000) (hc : h.1.length + 1 ≤ xn x + (xR x).cells) (hs : tot h.1 + n.toNatClampNeg ≤ xt x + (xR x).slots)
    (k : J E mi x (pc + 3) ls (.ref h.1.length :: st) (h.1 ++ [(1, n.toNatClampNeg)], bup h.2.1 h.1.length (fun _ => none), bup h.2.2 h.1.length (fun _ => 0))) : J E mi x pc ls (.int n :: st) h := by
  intro H locs cells slots lsM g1 g2 g3 g4 g5 g6 g7 g8
  have hS : va_S (fun q => eB E ≤ q) H H locs := ⟨Nat.le_refl _, fun _ _ _ => rfl, g2⟩
  have e2 : bup h.2.1 h.1.length (fun _ => (none : Option Nat)) h.1.length = fun _ => none := if_pos rfl
  obtain ⟨q0, hq0, hl⟩ := cl_fact hf
  have hq1 : q0 = (cR10, cT10, 19) := Option.some.inj (hq0.symm.trans rfl)
  subst hq1
  refine va_newq (C := "AliasHouse$World") (N' := n.toNatClampNeg) C.1 C.2.1 C.2.2.2.1 (C.2.2.2.2.1 _ hl) C.2.2.2.2.2.1.2.2.1 C.2.2.2.2.2.1.1 g1.1 (wsOf_D g1.2.2.2) hS (fun q hq => ?_) hn rfl (by omega) (by omega) (by omega) hd (fun q cA H1 hK1 hP1 hD1 hS1 => ?_)
  · show eB E ≤ q
    have := g1.2.1
    omega
  · have hcA : cA = eW E := ra_row C.2.2.2.2.2.1.1 hK1 (k := 2) rfl
    subst hcA
    refine J_new (h := h) (h1 := (h.1 ++ [(1, n.toNatClampNeg)], bup h.2.1 h.1.length (fun _ => none), bup h.2.2 h.1.length (fun _ => 0))) (c := (1, n.toNatClampNeg)) k C g1 rfl hlt (fun k n h => by cases h) (fun j cc hj => cell_new hj) ?_ ?_ hS1 g3 g4 g5 g6 (by omega) (by show slots + n.toNatClampNeg ≤ _; omega)
    · unfold cellE; dsimp only; rw [e2]; exact hP1
    · unfold cellE; dsimp only; rw [e2]; exact hD1
theorem df_of {t : FieldType} {k : Nat} (h : tyFit t k = true) : defaultValue t = (if k = 2 then .null else .int 0) := by
  cases t <;> simp [tyFit] at h <;> subst h <;> rfl
theorem s_new {c i n : Nat} (C : Ctx E SOK mi x d) (hd : decode mi.2.1 pc = .ok (.new i, 3)) (hf : has3 pCL mi.2.2.2.2.1 i c = true) (hn : pN[c]? = some n) (hlt : h.1.length < 100000) (hc : h.1.length + 1 ≤ xn x + (xR x).cells) (hs : tot h.1 + n ≤ xt x + (xR x).slots)
    (k : J E mi x (pc + 3) ls (.ref h.1.length :: st) (h.1 ++ [(c + 2, n)], bup h.2.1 h.1.length (fun _ => none), bup h.2.2 h.1.length (fun _ => 0))) : J E mi x pc ls st h := by
  intro H locs cells slots lsM g1 g2 g3 g4 g5 g6 g7 g8
  have hS : va_S (fun q => eB E ≤ q) H H locs := ⟨Nat.le_refl _, fun _ _ _ => rfl, g2⟩
  have e1 : bup h.2.1 h.1.length (fun _ => (none : Option Nat)) h.1.length = fun _ => none := if_pos rfl
  have e2 : bup h.2.2 h.1.length (fun _ => (0 : Int32)) h.1.length = fun _ => 0 := if_pos rfl
  obtain ⟨q0, hq0, hl⟩ := cl_fact hf
  obtain ⟨c1, c2, c3, c4, c5, c6, c7, c8⟩ := pcl_fact hq0
  have hnn : n = q0.2.2 := Option.some.inj (hn.symm.trans c7)
  subst hnn
  refine va_new (ci := c) (C := q0.1) (T := q0.2.1) (N := q0.2.2) (fs := (List.range q0.2.2).map (fV E (h.1 ++ [(c + 2, q0.2.2)], bup h.2.1 h.1.length (fun _ => none), bup h.2.2 h.1.length (fun _ => 0)) c h.1.length)) C.1 C.2.1 C.2.2.2.2.1 c1 (tyOf q0) c2 C.2.2.2.1 (C.2.2.2.2.1 _ hl) (C.2.2.2.2.1 _ c5) (C.2.2.2.2.1 _ c6) C.2.2.2.2.2.1.1 g1.1 (wsOf_D g1.2.2.2) hS (fun q hq => ?_) hq0 (fun j hj => ?_) (by omega) (by omega) hd (fun q H1 hP1 hD1 hS1 => ?_)
  · show eB E ≤ q
    have := g1.2.1
    omega
  · rw [df_of (c3 j hj)]
    unfold vp_V
    rw [List.getD_eq_getElem?_getD]
    simp only [List.getElem?_map, List.getElem?_range hj, Option.map_some, Option.getD_some]
    unfold fV
    dsimp only
    rw [e1, e2]
    rfl
  · exact J_new (h := h) (h1 := (h.1 ++ [(c + 2, q0.2.2)], bup h.2.1 h.1.length (fun _ => none), bup h.2.2 h.1.length (fun _ => 0))) (c := (c + 2, q0.2.2)) k C g1 rfl hlt (fun k n h => by cases h; exact c7) (fun j cc hj => cell_new hj) hP1 hD1 hS1 g3 g4 g5 g6 (by omega) (by show slots + q0.2.2 ≤ _; omega)
theorem s_script {i : Int32} (C : Ctx E SOK mi x d) (hd : decode mi.2.1 pc = .ok (.iaload, 1)) (hi : inR i (eL E) = true) (hb : eS E < eB E) (hH : eB E = (eH E).size) (k : J E mi x (pc + 1) ls (.int (eX E i.toNatClampNeg) :: st) h) : J E mi x pc ls (.int i :: .ref 1000000 :: st) h := by
  intro H locs cells slots lsM g1 g2 g3 g4 g5 g6 g7 g8
  have hS : va_S (fun q => eB E ≤ q) (eH E) H locs := ⟨by rw [← hH, g1.2.1]; omega, fun q h1 h2 => g1.2.2.1 q (by omega), g2⟩
  exact va_sld C.1 C.2.1 C.2.2.2.2.2.1.2.2.2 (by omega) (by show ¬ eB E ≤ eS E; omega) hS (vp_of_inR hi) hd (k H locs cells slots lsM g1 g2 g3 g4 g5 g6 g7 g8)
theorem s_scriptLen (C : Ctx E SOK mi x d) (hd : decode mi.2.1 pc = .ok (.arraylength, 1)) (hb : eS E < eB E) (hH : eB E = (eH E).size) (k : J E mi x (pc + 1) ls (.int (Int32.ofNat (eL E)) :: st) h) : J E mi x pc ls (.ref 1000000 :: st) h := by
  intro H locs cells slots lsM g1 g2 g3 g4 g5 g6 g7 g8
  have hS : va_S (fun q => eB E ≤ q) (eH E) H locs := ⟨by rw [← hH, g1.2.1]; omega, fun q h1 h2 => g1.2.2.1 q (by omega), g2⟩
  exact va_slen C.1 C.2.1 C.2.2.2.2.2.1.2.2.2 (show eS E < (eH E).size by omega) (by show ¬ eB E ≤ eS E; omega) hS hd (k H locs cells slots lsM g1 g2 g3 g4 g5 g6 g7 g8)
theorem cat_map (l : List Value) : ((l.map (va E)).map fun v => v.category).sum = (l.map catV).sum := by
  rw [List.map_map]
  congr 1
  apply List.map_congr_left
  intro v _
  cases v <;> rfl
def fmName : MethodName := ⟨"java/lang/Math", "floorMod", "(II)I"⟩
section FM
variable {p : Program} {l : Launch} {e : Env} {R : Room} {s : State} {m : MethodId} {args : Array Value} {below : List Frame} {meth : Method} {c : Code} {T : State} {locs : List Loc} {cells slots : Nat}
abbrev fmB : ByteArray := prog_16_method_50_code
theorem fj0 : decode fmB 0 = .ok (.iload_n 0, 1) := by decide +kernel
theorem fj1 : decode fmB 1 = .ok (.iload_n 1, 1) := by decide +kernel
theorem fj2 : decode fmB 2 = .ok (.irem, 1) := by decide +kernel
theorem fj3 : decode fmB 3 = .ok (.istore_n 2, 1) := by decide +kernel
theorem fj4 : decode fmB 4 = .ok (.iload_n 0, 1) := by decide +kernel
theorem fj5 : decode fmB 5 = .ok (.iload_n 1, 1) := by decide +kernel
theorem fj6 : decode fmB 6 = .ok (.ixor, 1) := by decide +kernel
theorem fj7 : decode fmB 7 = .ok (.ifCond .ge 11, 3) := by decide +kernel
theorem fj10 : decode fmB 10 = .ok (.iload_n 2, 1) := by decide +kernel
theorem fj11 : decode fmB 11 = .ok (.ifCond .eq 7, 3) := by decide +kernel
theorem fj14 : decode fmB 14 = .ok (.iload_n 2, 1) := by decide +kernel
theorem fj15 : decode fmB 15 = .ok (.iload_n 1, 1) := by decide +kernel
theorem fj16 : decode fmB 16 = .ok (.iadd, 1) := by decide +kernel
theorem fj17 : decode fmB 17 = .ok (.ireturn, 1) := by decide +kernel
theorem fj18 : decode fmB 18 = .ok (.iload_n 2, 1) := by decide +kernel
theorem fj19 : decode fmB 19 = .ok (.ireturn, 1) := by decide +kernel
theorem fm_metF (l : Launch) (a0 m0 : Int32) (hm : ¬ m0 = 0) : Met l fmName [Cond.code fmName fmB 3 (some .int)] rm0 (PcFm a0 m0) (QcRead (fmJ a0 m0)) 0 0 (fun _ => False) := by
  refine va_MetF (cc := fmB) (maxL := 3) (ret := some .int) (by decide +kernel) rfl ?_
  intro p e s m args below meth c s₁ B hml hP
  obtain rfl := hP
  have hx := B.exec
  have hb := B.bytes
  have hr := B.returns
  have hlocks := B.notSynchronized
  have hl := lv_entry ([.int a0, .int m0]) (n := 3) (Nat.le_of_ble_eq_true rfl)
  show W _ _ _ _ _ _ _ _ _ _ _ _ _ _ _ (entryFrame m ([Value.int a0, Value.int m0] : List Value).toArray 3)
  rw [lg_entry_eq]
  generalize (lg_sl ([.int a0, .int m0]) ++ List.replicate (3 - (lg_sl ([.int a0, .int m0])).length) Slot.unset).toArray = ls at hl ⊢
  have hl : lv_has ls 3 [(0, .int a0), (1, .int m0)] := hl
  refine lv_iload_n hx hb fj0 rfl (lv_at hl 0 rfl) ?_
  refine lv_iload_n hx hb fj1 rfl (lv_at hl 1 rfl) ?_
  refine lv_irem hx hb fj2 hm ?_
  refine lv_istore_n (lv' := [(2, .int (a0 - a0 / m0 * m0)), (0, .int a0), (1, .int m0)]) hx hb fj3 rfl hl (by decide) rfl (fun ls hl => ?_)
  refine lv_iload_n hx hb fj4 rfl (lv_at hl 1 rfl) ?_
  refine lv_iload_n hx hb fj5 rfl (lv_at hl 2 rfl) ?_
  refine lv_ixor hx hb fj6 ?_
  refine lv_if_ge (tgt := 18) hx hb fj7 (by decide) (fun hc => ?_) (fun hc => ?_)
  · refine lv_iload_n hx hb fj18 rfl (lv_at hl 0 rfl) ?_
    have e : fmJ a0 m0 = a0 - a0 / m0 * m0 := if_pos hc
    exact W.iret hx hb hr (fun t ht hW => ⟨by rw [e], ht⟩) (fun q hq => by cases hq) fj19
  · refine lv_iload_n hx hb fj10 rfl (lv_at hl 0 rfl) ?_
    refine lv_if_eq (tgt := 18) hx hb fj11 (by decide) (fun hz => ?_) (fun hz => ?_)
    · refine lv_iload_n hx hb fj18 rfl (lv_at hl 0 rfl) ?_
      have e : fmJ a0 m0 = a0 - a0 / m0 * m0 := by unfold fmJ; rw [if_neg hc, if_pos hz]
      exact W.iret hx hb hr (fun t ht hW => ⟨by rw [e], ht⟩) (fun q hq => by cases hq) fj19
    · refine lv_iload_n hx hb fj14 rfl (lv_at hl 0 rfl) ?_
      refine lv_iload_n hx hb fj15 rfl (lv_at hl 2 rfl) ?_
      refine lv_iadd hx hb fj16 ?_
      have e : fmJ a0 m0 = a0 - a0 / m0 * m0 + m0 := by unfold fmJ; rw [if_neg hc, if_neg hz]
      exact W.iret hx hb hr (fun t ht hW => ⟨by rw [e], ht⟩) (fun q hq => by cases hq) fj17
theorem fm_call (X : Stand p l e R s m args below meth c T locs cells slots) (hexec : p.tables.exec = Jvm.exec) {own : String} {index : Nat} (hown : s.vm.findClass own = some m.cls) (hlink : (Cond.methodLink own index fmName).before args s = true) (hstat : (Cond.static fmName).before args s = true)
    (hcode : (Cond.code fmName fmB 3 (some .int)).before args s = true) (hini : (Cond.initialized "java/lang/Math").before args s = true) {a0 m0 : Int32} (hm : ¬ m0 = 0)
    {g : JFrame} (hg : g.method = m) (hsize : g.locals.size = c.maxLocals) {rest : List Value} (hstack : g.stack = .int m0 :: .int a0 :: rest)
    (hdg : decode c.code g.pc = .ok (.invokestatic index, 3)) (hW : 2 * g.monitorRoom + (rest.map fun v => v.category).sum ≤ 8) (hfr : 1 ≤ R.frames) (hlo : 22 ≤ R.locals) (hcells : cells ≤ R.cells) (hslots : slots ≤ R.slots) :
    ∃ T', Stand p l e R s m args below meth c T' locs cells slots ∧ T'.heap = T.heap ∧
      ∀ target, Steps p.tables e below (T'.setTop { g with pc := g.pc + 3, stack := .int (fmJ a0 m0) :: rest }) target → Steps p.tables e below (T.setTop g) target := by
  obtain ⟨v, vm₁, g', mk, t, T', XF, e1, e2, ⟨hv, hh⟩, st⟩ := callSM X hexec (own := own) (index := index) (y := fmName) (bytes := fmB) (maxL := 3) (ret := some .int) (W := 8) (mc := 0) (ms := 0)
    (ws := [Cond.code fmName fmB 3 (some .int)]) (rm := rm0) (Pc := PcFm a0 m0) (Qc := QcRead (fmJ a0 m0)) (free := fun _ => False) (fm_metF l a0 m0 hm) (blindFm a0 m0) rfl rfl (by simpa [rm0] using hfr) (by simpa [rm0] using hlo)
    (fun w hw a' U hW' => by
      have hw' : w = Cond.code fmName fmB 3 (some .int) := by simpa using hw
      subst hw'
      exact word_at hW' (Or.inl rfl) hcode)
    List.mem_cons_self hown hlink hstat hcode hini ⟨by decide, by decide⟩ hg hsize (argsL := [.int a0, .int m0]) (rest := rest) (fun sig h => by
      have h2 : (parseMethodDescriptor fmName.desc).map (fun d => d.parameters.length) = some 2 := by decide +kernel
      rw [h] at h2
      exact (Option.some.inj h2).symm) (hstack.trans rfl) hW hdg hcells hslots
    (fun vm₁ hW₁ => by unfold PcFm; rfl) (fun a h => h.elim)
  cases hv
  exact ⟨T', XF, e1.trans hh, st⟩
end FM
theorem s_objinit {a i : Nat} (C : Ctx E SOK mi x d) (hd : decode mi.2.1 pc = .ok (.invokespecial i, 3)) (hf : has3 pBL mi.2.2.2.2.1 i 0 = true) (hr : (st.map catV).sum ≤ 8) (k : J E mi x (pc + 3) ls st h) : J E mi x pc ls (.ref a :: st) h := by
  intro H locs cells slots lsM g1 g2 g3 g4 g5 g6 g7 g8
  have hR := C.2.2.2.2.2.2.2.2.2
  refine W.objInit C.1 C.2.1 C.2.2.2.1 (C.2.2.2.2.1 _ (bl_fact hf)) (C.2.2.2.2.1 _ w_objinst) (C.2.2.2.2.1 _ w_objcode) rfl (by rw [C.2.2.1]; exact g3.1) rfl hd (by omega) ?_ (k H locs cells slots lsM g1 g2 g3 g4 g5 g6 g7 g8)
  show 2 * 0 + _ + 12 ≤ _
  rw [cat_map]
  omega
theorem s_min {a b : Int32} {i : Nat} (C : Ctx E SOK mi x d) (hd : decode mi.2.1 pc = .ok (.invokestatic i, 3)) (hf : has3 pBL mi.2.2.2.2.1 i 2 = true) (hr : (st.map catV).sum ≤ 8) (k : J E mi x (pc + 3) ls (.int (if b < a then b else a) :: st) h) : J E mi x pc ls (.int b :: .int a :: st) h := by
  intro H locs cells slots lsM g1 g2 g3 g4 g5 g6 g7 g8
  have hR := C.2.2.2.2.2.2.2.2.2
  exact va_mmin C.1 C.2.1 (by rw [C.2.2.1]; exact g3.1.symm) C.2.2.2.1 (C.2.2.2.2.1 _ (bl_fact hf)) (C.2.2.2.2.1 _ w_minstat) (C.2.2.2.2.1 _ w_mathinit) (C.2.2.2.2.1 _ w_mincode) (by omega) (by rw [cat_map]; omega) g7 g8 hd (k H locs cells slots lsM g1 g2 g3 g4 g5 g6 g7 g8)
theorem s_max {a b : Int32} {i : Nat} (C : Ctx E SOK mi x d) (hd : decode mi.2.1 pc = .ok (.invokestatic i, 3)) (hf : has3 pBL mi.2.2.2.2.1 i 3 = true) (hr : (st.map catV).sum ≤ 8) (k : J E mi x (pc + 3) ls (.int (if a < b then b else a) :: st) h) : J E mi x pc ls (.int b :: .int a :: st) h := by
  intro H locs cells slots lsM g1 g2 g3 g4 g5 g6 g7 g8
  have hR := C.2.2.2.2.2.2.2.2.2
  exact va_mmax C.1 C.2.1 (by rw [C.2.2.1]; exact g3.1.symm) C.2.2.2.1 (C.2.2.2.2.1 _ (bl_fact hf)) (C.2.2.2.2.1 _ w_maxstat) (C.2.2.2.2.1 _ w_mathinit) (C.2.2.2.2.1 _ w_maxcode) (by omega) (by rw [cat_map]; omega) g7 g8 hd (k H locs cells slots lsM g1 g2 g3 g4 g5 g6 g7 g8)
theorem s_maxl {a b : Int64} {i : Nat} (C : Ctx E SOK mi x d) (hd : decode mi.2.1 pc = .ok (.invokestatic i, 3)) (hf : has3 pBL mi.2.2.2.2.1 i 4 = true) (hr : (st.map catV).sum ≤ 8) (k : J E mi x (pc + 3) ls (.long (if b < a then a else b) :: st) h) : J E mi x pc ls (.long b :: .long a :: st) h := by
  intro H locs cells slots lsM g1 g2 g3 g4 g5 g6 g7 g8
  have hR := C.2.2.2.2.2.2.2.2.2
  exact va_mmax_long C.1 C.2.1 (by rw [C.2.2.1]; exact g3.1.symm) C.2.2.2.1 (C.2.2.2.2.1 _ (bl_fact hf)) (C.2.2.2.2.1 _ w_maxlstat) (C.2.2.2.2.1 _ w_mathinit) (C.2.2.2.2.1 _ w_maxlcode) (by omega) (by rw [cat_map]; omega) g7 g8 hd (k H locs cells slots lsM g1 g2 g3 g4 g5 g6 g7 g8)
theorem s_copy {sp dp n : Int32} {a b i : Nat} (C : Ctx E SOK mi x d) (hd : decode mi.2.1 pc = .ok (.invokestatic i, 3)) (hf : has3 pBL mi.2.2.2.2.1 i 1 = true) (hr : (st.map catV).sum ≤ 8) (ha : isArr h.1 a = true) (hb : isArr h.1 b = true) (h1 : ¬ sp < 0) (h2 : ¬ dp < 0) (h3 : ¬ n < 0) (h4 : sp.toNatClampNeg + n.toNatClampNeg ≤ siz h.1 a) (h5 : dp.toNatClampNeg + n.toNatClampNeg ≤ siz h.1 b)
    (k : J E mi x (pc + 3) ls st (h.1, h.2.1, bup h.2.2 b (cpyI (h.2.2 a) (h.2.2 b) sp.toNatClampNeg dp.toNatClampNeg n.toNatClampNeg))) : J E mi x pc ls (.int n :: .int dp :: .ref b :: .int sp :: .ref a :: st) h := by
  intro H locs cells slots lsM g1 g2 g3 g4 g5 g6 g7 g8
  have hR := C.2.2.2.2.2.2.2.2.2
  have hS : va_S (fun q => eB E ≤ q) H H locs := ⟨Nat.le_refl _, fun _ _ _ => rfl, g2⟩
  refine va_copyi C.1 C.2.1 (by rw [C.2.2.1]; exact g3.1.symm) C.2.2.2.1 (C.2.2.2.2.1 _ (bl_fact hf)) (C.2.2.2.2.1 _ w_acnat) (C.2.2.2.2.1 _ w_acstat) (C.2.2.2.2.1 _ w_sysinit) C.2.2.2.2.2.1.1 g1.1 (wsOf_D g1.2.2.2) hS a b 0 0 (wsOf_at (E := E) (isArr_at ha)) (wsOf_at (E := E) (isArr_at hb)) rfl rfl rfl h1 h2 h3 h4 h5 (fun i _ => rfl) (by omega) (by rw [cat_map]; show _ + (7 + 11) ≤ _; omega) hd (fun H1 locs1 hP1 hD1 hS1 => ?_)
  have e : bup h.2.2 b (cpyI (h.2.2 a) (h.2.2 b) sp.toNatClampNeg dp.toNatClampNeg n.toNatClampNeg) b = cpyI (h.2.2 a) (h.2.2 b) sp.toNatClampNeg dp.toNatClampNeg n.toNatClampNeg := if_pos rfl
  rw [wsOf_set (E := E) (h := h) (h1 := (h.1, h.2.1, bup h.2.2 b (cpyI (h.2.2 a) (h.2.2 b) sp.toNatClampNeg dp.toNatClampNeg n.toNatClampNeg))) rfl (isArr_at hb) (by unfold cellE; dsimp only; rw [e]; rfl) (fun j cc hj => cell_bupI hj)] at hP1
  exact J_after k C g1 (by show eB E + h.1.length ≤ _; rw [← g1.2.1]; exact hS1.1) g1.2.2.2 hP1 hS1 g3 g4 g5 g6 g7 g8
theorem s_table {d0 lo hi : Int} {offs : Array Int} {D0 : Int} {ts : Array Int} {len : Nat} {a : Int32} (C : Ctx E SOK mi x d) (hd : decode mi.2.1 pc = .ok (.tableswitch d0 lo hi offs, len)) (h0 : tgt pc d0 D0 = true) (h1 : ts.toList = offs.toList.map (fun z => (pc : Int) + z)) (h2 : ts.toList.all (fun z => decide (0 ≤ z)) = true) (h3 : (ts.size : Int) = hi - lo + 1)
    (k : J E mi x (swAt D0 lo ts.toList a) ls st h) : J E mi x pc ls (.int a :: st) h := by
  intro H locs cells slots lsM g1 g2 g3 g4 g5 g6 g7 g8
  simp only [tgt, Bool.and_eq_true, decide_eq_true_eq] at h0
  have hk := k H locs cells slots lsM g1 g2 g3 g4 g5 g6 g7 g8
  have hsz : ts.toList.length = offs.toList.length := by rw [h1]; simp
  by_cases hlo : a.toInt < lo
  · refine lv_tableOut (tgt := D0.toNat) C.1 C.2.1 hd (Or.inl hlo) (by omega) ?_
    have e : swAt D0 lo ts.toList a = D0.toNat := by
      unfold swAt
      split
      · rw [if_pos hlo]
      · rfl
    rw [e] at hk
    exact hk
  · by_cases hhi : hi < a.toInt
    · refine lv_tableOut (tgt := D0.toNat) C.1 C.2.1 hd (Or.inr hhi) (by omega) ?_
      have e : swAt D0 lo ts.toList a = D0.toNat := by
        unfold swAt
        rw [List.getElem?_eq_none (by have : ts.toList.length = ts.size := Array.length_toList; omega)]
      rw [e] at hk
      exact hk
    · have hlt : (a.toInt - lo).toNat < ts.toList.length := by have : ts.toList.length = ts.size := Array.length_toList; omega
      have hlt2 : (a.toInt - lo).toNat < offs.toList.length := by omega
      have hget : ts.toList[(a.toInt - lo).toNat]? = some ((pc : Int) + offs.toList[(a.toInt - lo).toNat]) := by
        rw [h1, List.getElem?_map, List.getElem?_eq_getElem hlt2]
        rfl
      have hnn : 0 ≤ (pc : Int) + offs.toList[(a.toInt - lo).toNat] := by
        have := List.all_eq_true.mp h2 _ (List.mem_of_getElem? hget)
        simpa using this
      have e : swAt D0 lo ts.toList a = ((pc : Int) + offs.toList[(a.toInt - lo).toNat]).toNat := by
        unfold swAt
        rw [hget]
        dsimp only
        rw [if_neg hlo]
      rw [e] at hk
      refine lv_tableIn (off := offs.toList[(a.toInt - lo).toNat]) C.1 C.2.1 hd hlo hhi ?_ (by omega) hk
      rw [← Array.getElem?_toList, List.getElem?_eq_getElem hlt2]
theorem lk_off {pc : Nat} (a : Int32) (d0 D0 : Int) (h0 : (pc : Int) + d0 = D0) : ∀ (ps ps' : List (Int × Int)), ps = ps'.map (fun z => (z.1, (pc : Int) + z.2)) → (∀ z ∈ ps, 0 ≤ z.2 ∧ (i32 z.1).toInt = z.1) → 0 ≤ D0 → (pc : Int) + Op.lookupswitch.offset ps' d0 a.toInt = (lkAt D0 ps a : Int) := by
  intro ps
  induction ps with
  | nil =>
    intro ps' h1 _ h3
    cases ps' with
    | nil =>
      show (pc : Int) + d0 = (D0.toNat : Int)
      omega
    | cons z r => simp at h1
  | cons y r ih =>
    intro ps' h1 h2 h3
    cases ps' with
    | nil => simp at h1
    | cons z r' =>
      simp only [List.map_cons, List.cons.injEq] at h1
      obtain ⟨rfl, h1⟩ := h1
      have h4 := h2 _ List.mem_cons_self
      obtain ⟨z1, z2⟩ := z
      rw [Op.lookupswitch.offset_cons]
      by_cases hc : a = i32 z1
      · have e : lkAt D0 ((z1, (pc : Int) + z2) :: r) a = ((pc : Int) + z2).toNat := by show (if a = i32 z1 then _ else _) = _; rw [if_pos hc]
        rw [e, if_pos (by rw [hc]; exact h4.2.symm)]
        have := h4.1
        dsimp only at this
        omega
      · have e : lkAt D0 ((z1, (pc : Int) + z2) :: r) a = lkAt D0 r a := by show (if a = i32 z1 then _ else _) = _; rw [if_neg hc]
        rw [e, if_neg (fun q => hc (Int32.toInt_inj.mp (q.symm.trans h4.2.symm)))]
        exact ih r' h1 (fun z hz => h2 z (List.mem_cons_of_mem _ hz)) h3
theorem s_lookup {d0 D0 : Int} {ps' ps : Array (Int × Int)} {len : Nat} {a : Int32} (C : Ctx E SOK mi x d) (hd : decode mi.2.1 pc = .ok (.lookupswitch d0 ps', len)) (h0 : tgt pc d0 D0 = true) (h1 : ps.toList = ps'.toList.map (fun z => (z.1, (pc : Int) + z.2))) (h2 : ps.toList.all (fun z => decide (0 ≤ z.2) && decide ((i32 z.1).toInt = z.1)) = true)
    (h3 : (ps'.toList.zip (ps'.toList.drop 1)).all (fun (a, next) => a.1 < next.1) = true) (k : J E mi x (lkAt D0 ps.toList a) ls st h) : J E mi x pc ls (.int a :: st) h := by
  intro H locs cells slots lsM g1 g2 g3 g4 g5 g6 g7 g8
  simp only [tgt, Bool.and_eq_true, decide_eq_true_eq] at h0
  refine lv_lookup C.1 C.2.1 hd h3 rfl (lk_off a d0 D0 h0.1 ps.toList ps'.toList h1 (fun z hz => ?_) h0.2) (k H locs cells slots lsM g1 g2 g3 g4 g5 g6 g7 g8)
  have := List.all_eq_true.mp h2 z hz
  simpa using this
theorem s_fm {a b : Int32} {i : Nat} (C : Ctx E SOK mi x d) (hd : decode mi.2.1 pc = .ok (.invokestatic i, 3)) (hf : has3 pBL mi.2.2.2.2.1 i 7 = true) (hr : (st.map catV).sum ≤ 8) (hb : ¬ b = 0) (k : J E mi x (pc + 3) ls (.int (fmJ a b) :: st) h) : J E mi x pc ls (.int b :: .int a :: st) h := by
  intro H locs cells slots lsM g1 g2 g3 g4 g5 g6 g7 g8
  have hR := C.2.2.2.2.2.2.2.2.2
  intro T hT X
  obtain ⟨T', X', hT', st⟩ := fm_call X C.1 C.2.2.2.1 (C.2.2.2.2.1 _ (bl_fact hf)) (C.2.2.2.2.1 _ w_fmstat) (C.2.2.2.2.1 _ w_fmcode) (C.2.2.2.2.1 _ w_mathinit) hb (g := F0 (xm x) pc lsM (.int b :: .int a :: st.map (va E))) rfl (by rw [C.2.2.1]; exact g3.1) rfl (by rw [C.2.1]; exact hd) (by show 2 * 0 + _ ≤ 8; rw [cat_map]; omega) (by omega) (by omega) g7 g8
  obtain ⟨t2, a1, b1⟩ := k H locs cells slots lsM g1 g2 g3 g4 g5 g6 g7 g8 T' (hT'.trans hT) X'
  exact ⟨t2, st t2 a1, b1⟩
end SIMK
