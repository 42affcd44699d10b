/-! a row an instruction, over the pure machine's world -/
section SIMR
variable {E : EV} {SOK : State → Prop} {mi : PInf} {x : CTX} {d pc : Nat} {ls st : List Value} {h : PH}
theorem W_size {H : Heap} {locs : List Loc} {cells slots : Nat} {g : JFrame} (k : H.size ≤ (xs x).heap.size + cells → WX x H locs cells slots g) : WX x H locs cells slots g := by
  intro T hT X
  exact k (by rw [← hT]; exact X.heapSize) T hT X
theorem s_iadd {a b : Int32} (C : Ctx E SOK mi x d) (hd : decode mi.2.1 pc = .ok (.iadd, 1)) (k : J E mi x (pc + 1) ls (.int (a + b) :: st) h) : J E mi x pc ls (.int b :: .int a :: st) h := by
  intro H locs cells slots lsM g1 g2 g3 g4 g5 g6 g7 g8
  exact lv_iadd C.1 C.2.1 hd (k H locs cells slots lsM g1 g2 g3 g4 g5 g6 g7 g8)
theorem s_isub {a b : Int32} (C : Ctx E SOK mi x d) (hd : decode mi.2.1 pc = .ok (.isub, 1)) (k : J E mi x (pc + 1) ls (.int (a - b) :: st) h) : J E mi x pc ls (.int b :: .int a :: st) h := by
  intro H locs cells slots lsM g1 g2 g3 g4 g5 g6 g7 g8
  exact lv_isub C.1 C.2.1 hd (k H locs cells slots lsM g1 g2 g3 g4 g5 g6 g7 g8)
theorem s_imul {a b : Int32} (C : Ctx E SOK mi x d) (hd : decode mi.2.1 pc = .ok (.imul, 1)) (k : J E mi x (pc + 1) ls (.int (a * b) :: st) h) : J E mi x pc ls (.int b :: .int a :: st) h := by
  intro H locs cells slots lsM g1 g2 g3 g4 g5 g6 g7 g8
  exact lv_imul C.1 C.2.1 hd (k H locs cells slots lsM g1 g2 g3 g4 g5 g6 g7 g8)
theorem s_iand {a b : Int32} (C : Ctx E SOK mi x d) (hd : decode mi.2.1 pc = .ok (.iand, 1)) (k : J E mi x (pc + 1) ls (.int (a &&& b) :: st) h) : J E mi x pc ls (.int b :: .int a :: st) h := by
  intro H locs cells slots lsM g1 g2 g3 g4 g5 g6 g7 g8
  exact lv_iand C.1 C.2.1 hd (k H locs cells slots lsM g1 g2 g3 g4 g5 g6 g7 g8)
theorem s_ior {a b : Int32} (C : Ctx E SOK mi x d) (hd : decode mi.2.1 pc = .ok (.ior, 1)) (k : J E mi x (pc + 1) ls (.int (a ||| b) :: st) h) : J E mi x pc ls (.int b :: .int a :: st) h := by
  intro H locs cells slots lsM g1 g2 g3 g4 g5 g6 g7 g8
  exact lv_ior C.1 C.2.1 hd (k H locs cells slots lsM g1 g2 g3 g4 g5 g6 g7 g8)
theorem s_ixor {a b : Int32} (C : Ctx E SOK mi x d) (hd : decode mi.2.1 pc = .ok (.ixor, 1)) (k : J E mi x (pc + 1) ls (.int (a ^^^ b) :: st) h) : J E mi x pc ls (.int b :: .int a :: st) h := by
  intro H locs cells slots lsM g1 g2 g3 g4 g5 g6 g7 g8
  exact lv_ixor C.1 C.2.1 hd (k H locs cells slots lsM g1 g2 g3 g4 g5 g6 g7 g8)
theorem s_ishl {a b : Int32} (C : Ctx E SOK mi x d) (hd : decode mi.2.1 pc = .ok (.ishl, 1)) (k : J E mi x (pc + 1) ls (.int (a <<< (b &&& 31)) :: st) h) : J E mi x pc ls (.int b :: .int a :: st) h := by
  intro H locs cells slots lsM g1 g2 g3 g4 g5 g6 g7 g8
  exact lv_ishl C.1 C.2.1 hd (k H locs cells slots lsM g1 g2 g3 g4 g5 g6 g7 g8)
theorem s_ishr {a b : Int32} (C : Ctx E SOK mi x d) (hd : decode mi.2.1 pc = .ok (.ishr, 1)) (k : J E mi x (pc + 1) ls (.int (a >>> (b &&& 31)) :: st) h) : J E mi x pc ls (.int b :: .int a :: st) h := by
  intro H locs cells slots lsM g1 g2 g3 g4 g5 g6 g7 g8
  exact lv_ishr C.1 C.2.1 hd (k H locs cells slots lsM g1 g2 g3 g4 g5 g6 g7 g8)
theorem s_idiv {a b : Int32} (C : Ctx E SOK mi x d) (hd : decode mi.2.1 pc = .ok (.idiv, 1)) (hne : ¬ b = 0) (k : J E mi x (pc + 1) ls (.int (a / b) :: st) h) : J E mi x pc ls (.int b :: .int a :: st) h := by
  intro H locs cells slots lsM g1 g2 g3 g4 g5 g6 g7 g8
  exact lv_idiv C.1 C.2.1 hd hne (k H locs cells slots lsM g1 g2 g3 g4 g5 g6 g7 g8)
theorem s_irem {a b : Int32} (C : Ctx E SOK mi x d) (hd : decode mi.2.1 pc = .ok (.irem, 1)) (hne : ¬ b = 0) (k : J E mi x (pc + 1) ls (.int (a - a / b * b) :: st) h) : J E mi x pc ls (.int b :: .int a :: st) h := by
  intro H locs cells slots lsM g1 g2 g3 g4 g5 g6 g7 g8
  exact lv_irem C.1 C.2.1 hd hne (k H locs cells slots lsM g1 g2 g3 g4 g5 g6 g7 g8)
theorem s_iushr {a b : Int32} (C : Ctx E SOK mi x d) (hd : decode mi.2.1 pc = .ok (.iushr, 1)) (k : J E mi x (pc + 1) ls (.int ((a.toUInt32 >>> (b.toUInt32 &&& Int32.toUInt32 31)).toInt32) :: st) h) : J E mi x pc ls (.int b :: .int a :: st) h := by
  intro H locs cells slots lsM g1 g2 g3 g4 g5 g6 g7 g8
  exact lv_iushr C.1 C.2.1 hd rfl (k H locs cells slots lsM g1 g2 g3 g4 g5 g6 g7 g8)
theorem s_ineg {a : Int32} (C : Ctx E SOK mi x d) (hd : decode mi.2.1 pc = .ok (.ineg, 1)) (k : J E mi x (pc + 1) ls (.int (-a) :: st) h) : J E mi x pc ls (.int a :: st) h := by
  intro H locs cells slots lsM g1 g2 g3 g4 g5 g6 g7 g8
  exact lv_ineg C.1 C.2.1 hd (k H locs cells slots lsM g1 g2 g3 g4 g5 g6 g7 g8)
theorem s_lsub {a b : Int64} (C : Ctx E SOK mi x d) (hd : decode mi.2.1 pc = .ok (.lsub, 1)) (k : J E mi x (pc + 1) ls (.long (a - b) :: st) h) : J E mi x pc ls (.long b :: .long a :: st) h := by
  intro H locs cells slots lsM g1 g2 g3 g4 g5 g6 g7 g8
  exact lv_lsub C.1 C.2.1 hd (k H locs cells slots lsM g1 g2 g3 g4 g5 g6 g7 g8)
theorem s_lmul {a b : Int64} (C : Ctx E SOK mi x d) (hd : decode mi.2.1 pc = .ok (.lmul, 1)) (k : J E mi x (pc + 1) ls (.long (a * b) :: st) h) : J E mi x pc ls (.long b :: .long a :: st) h := by
  intro H locs cells slots lsM g1 g2 g3 g4 g5 g6 g7 g8
  exact lv_lmul C.1 C.2.1 hd (k H locs cells slots lsM g1 g2 g3 g4 g5 g6 g7 g8)
theorem s_ldiv {a b : Int64} (C : Ctx E SOK mi x d) (hd : decode mi.2.1 pc = .ok (.ldiv, 1)) (hne : ¬ b = 0) (k : J E mi x (pc + 1) ls (.long (a / b) :: st) h) : J E mi x pc ls (.long b :: .long a :: st) h := by
  intro H locs cells slots lsM g1 g2 g3 g4 g5 g6 g7 g8
  exact lv_ldiv C.1 C.2.1 hd hne (k H locs cells slots lsM g1 g2 g3 g4 g5 g6 g7 g8)
theorem s_lrem {a b : Int64} (C : Ctx E SOK mi x d) (hd : decode mi.2.1 pc = .ok (.lrem, 1)) (hne : ¬ b = 0) (k : J E mi x (pc + 1) ls (.long (a - a / b * b) :: st) h) : J E mi x pc ls (.long b :: .long a :: st) h := by
  intro H locs cells slots lsM g1 g2 g3 g4 g5 g6 g7 g8
  exact lv_lrem C.1 C.2.1 hd hne (k H locs cells slots lsM g1 g2 g3 g4 g5 g6 g7 g8)
theorem s_i2l {a : Int32} (C : Ctx E SOK mi x d) (hd : decode mi.2.1 pc = .ok (.i2l, 1)) (k : J E mi x (pc + 1) ls (.long a.toInt64 :: st) h) : J E mi x pc ls (.int a :: st) h := by
  intro H locs cells slots lsM g1 g2 g3 g4 g5 g6 g7 g8
  exact lv_i2l C.1 C.2.1 hd rfl (k H locs cells slots lsM g1 g2 g3 g4 g5 g6 g7 g8)
theorem s_l2i {a : Int64} (C : Ctx E SOK mi x d) (hd : decode mi.2.1 pc = .ok (.l2i, 1)) (k : J E mi x (pc + 1) ls (.int a.toInt32 :: st) h) : J E mi x pc ls (.long a :: st) h := by
  intro H locs cells slots lsM g1 g2 g3 g4 g5 g6 g7 g8
  exact lv_l2i C.1 C.2.1 hd rfl (k H locs cells slots lsM g1 g2 g3 g4 g5 g6 g7 g8)
theorem s_lcmp {a b : Int64} (C : Ctx E SOK mi x d) (hd : decode mi.2.1 pc = .ok (.lcmp, 1)) (k : J E mi x (pc + 1) ls (.int (lg_cmp a b) :: st) h) : J E mi x pc ls (.long b :: .long a :: st) h := by
  intro H locs cells slots lsM g1 g2 g3 g4 g5 g6 g7 g8
  exact W.lcmp C.1 C.2.1 hd (k H locs cells slots lsM g1 g2 g3 g4 g5 g6 g7 g8)
theorem s_pop {a : Int32} (C : Ctx E SOK mi x d) (hd : decode mi.2.1 pc = .ok (.pop, 1)) (k : J E mi x (pc + 1) ls st h) : J E mi x pc ls (.int a :: st) h := by
  intro H locs cells slots lsM g1 g2 g3 g4 g5 g6 g7 g8
  exact lv_pop C.1 C.2.1 hd rfl (k H locs cells slots lsM g1 g2 g3 g4 g5 g6 g7 g8)
theorem s_dup {v : Value} (C : Ctx E SOK mi x d) (hd : decode mi.2.1 pc = .ok (.dup, 1)) (hv : (va E v).category = 1) (k : J E mi x (pc + 1) ls (v :: v :: st) h) : J E mi x pc ls (v :: st) h := by
  intro H locs cells slots lsM g1 g2 g3 g4 g5 g6 g7 g8
  exact lv_dup C.1 C.2.1 hd hv (k H locs cells slots lsM g1 g2 g3 g4 g5 g6 g7 g8)
theorem s_dup2 {v w : Value} (C : Ctx E SOK mi x d) (hd : decode mi.2.1 pc = .ok (.dup2, 1)) (hv : (va E v).category = 1) (hw : (va E w).category = 1) (k : J E mi x (pc + 1) ls (v :: w :: v :: w :: st) h) : J E mi x pc ls (v :: w :: st) h := by
  intro H locs cells slots lsM g1 g2 g3 g4 g5 g6 g7 g8
  exact lv_dup2_11 C.1 C.2.1 hd hv hw (k H locs cells slots lsM g1 g2 g3 g4 g5 g6 g7 g8)
theorem s_iconst {n : Int} {v : Int32} (C : Ctx E SOK mi x d) (hd : decode mi.2.1 pc = .ok (.iconst n, 1)) (hv : Int32.ofInt n = v) (k : J E mi x (pc + 1) ls (.int v :: st) h) : J E mi x pc ls st h := by
  intro H locs cells slots lsM g1 g2 g3 g4 g5 g6 g7 g8
  exact lv_iconst C.1 C.2.1 hd hv (k H locs cells slots lsM g1 g2 g3 g4 g5 g6 g7 g8)
theorem s_bipush {n : Int} {v : Int32} (C : Ctx E SOK mi x d) (hd : decode mi.2.1 pc = .ok (.bipush n, 2)) (hv : (Int8.ofInt n).toInt32 = v) (k : J E mi x (pc + 2) ls (.int v :: st) h) : J E mi x pc ls st h := by
  intro H locs cells slots lsM g1 g2 g3 g4 g5 g6 g7 g8
  exact lv_bipush C.1 C.2.1 hd hv (k H locs cells slots lsM g1 g2 g3 g4 g5 g6 g7 g8)
theorem s_sipush {n : Int} {v : Int32} (C : Ctx E SOK mi x d) (hd : decode mi.2.1 pc = .ok (.sipush n, 3)) (hv : (Int16.ofInt n).toInt32 = v) (k : J E mi x (pc + 3) ls (.int v :: st) h) : J E mi x pc ls st h := by
  intro H locs cells slots lsM g1 g2 g3 g4 g5 g6 g7 g8
  exact lv_sipush C.1 C.2.1 hd hv (k H locs cells slots lsM g1 g2 g3 g4 g5 g6 g7 g8)
theorem s_ldc {i : Nat} {v : Int32} (C : Ctx E SOK mi x d) (hd : decode mi.2.1 pc = .ok (.ldc i, 2)) (hw : Cond.constant (oN.getD mi.2.2.2.2.1 "") i v ∈ GW) (k : J E mi x (pc + 2) ls (.int v :: st) h) : J E mi x pc ls st h := by
  intro H locs cells slots lsM g1 g2 g3 g4 g5 g6 g7 g8
  exact lv_ldc C.1 C.2.1 C.2.2.2.1 (C.2.2.2.2.1 _ hw) hd (k H locs cells slots lsM g1 g2 g3 g4 g5 g6 g7 g8)
theorem s_ldcw {i : Nat} {v : Int32} (C : Ctx E SOK mi x d) (hd : decode mi.2.1 pc = .ok (.ldc_w i, 3)) (hw : Cond.constant (oN.getD mi.2.2.2.2.1 "") i v ∈ GW) (k : J E mi x (pc + 3) ls (.int v :: st) h) : J E mi x pc ls st h := by
  intro H locs cells slots lsM g1 g2 g3 g4 g5 g6 g7 g8
  exact lv_ldcw C.1 C.2.1 C.2.2.2.1 (C.2.2.2.2.1 _ hw) hd (k H locs cells slots lsM g1 g2 g3 g4 g5 g6 g7 g8)
theorem s_lconst {n : Fin 2} (C : Ctx E SOK mi x d) (hd : decode mi.2.1 pc = .ok (.lconst n, 1)) (k : J E mi x (pc + 1) ls (.long (Int64.ofNat n.val) :: st) h) : J E mi x pc ls st h := by
  intro H locs cells slots lsM g1 g2 g3 g4 g5 g6 g7 g8
  exact lv_lconst C.1 C.2.1 hd rfl (k H locs cells slots lsM g1 g2 g3 g4 g5 g6 g7 g8)
theorem s_iload {n : Nat} {a : Int32} (C : Ctx E SOK mi x d) (hd : decode mi.2.1 pc = .ok (.iload n, 2)) (hl : ls[n]? = some (.int a)) (k : J E mi x (pc + 2) ls (.int a :: st) h) : J E mi x pc ls st h := by
  intro H locs cells slots lsM g1 g2 g3 g4 g5 g6 g7 g8
  exact lv_iload C.1 C.2.1 hd (loc_get g3 hl rfl) (k H locs cells slots lsM g1 g2 g3 g4 g5 g6 g7 g8)
theorem s_iload_n {n : Fin 4} {a : Int32} (C : Ctx E SOK mi x d) (hd : decode mi.2.1 pc = .ok (.iload_n n, 1)) (hl : ls[n.val]? = some (.int a)) (k : J E mi x (pc + 1) ls (.int a :: st) h) : J E mi x pc ls st h := by
  intro H locs cells slots lsM g1 g2 g3 g4 g5 g6 g7 g8
  exact lv_iload_n C.1 C.2.1 hd rfl (loc_get g3 hl rfl) (k H locs cells slots lsM g1 g2 g3 g4 g5 g6 g7 g8)
theorem s_lload {n : Nat} {a : Int64} (C : Ctx E SOK mi x d) (hd : decode mi.2.1 pc = .ok (.lload n, 2)) (hl : ls[n]? = some (.long a)) (k : J E mi x (pc + 2) ls (.long a :: st) h) : J E mi x pc ls st h := by
  intro H locs cells slots lsM g1 g2 g3 g4 g5 g6 g7 g8
  exact lv_lload C.1 C.2.1 hd (loc_get g3 hl rfl) (k H locs cells slots lsM g1 g2 g3 g4 g5 g6 g7 g8)
theorem s_lload_n {n : Fin 4} {a : Int64} (C : Ctx E SOK mi x d) (hd : decode mi.2.1 pc = .ok (.lload_n n, 1)) (hl : ls[n.val]? = some (.long a)) (k : J E mi x (pc + 1) ls (.long a :: st) h) : J E mi x pc ls st h := by
  intro H locs cells slots lsM g1 g2 g3 g4 g5 g6 g7 g8
  exact lv_lload_n C.1 C.2.1 hd rfl (loc_get g3 hl rfl) (k H locs cells slots lsM g1 g2 g3 g4 g5 g6 g7 g8)
theorem s_aload {n : Nat} {a : Nat} (C : Ctx E SOK mi x d) (hd : decode mi.2.1 pc = .ok (.aload n, 2)) (hl : ls[n]? = some (.ref a)) (k : J E mi x (pc + 2) ls (.ref a :: st) h) : J E mi x pc ls st h := by
  intro H locs cells slots lsM g1 g2 g3 g4 g5 g6 g7 g8
  exact lv_aload C.1 C.2.1 hd (loc_get g3 hl rfl) (k H locs cells slots lsM g1 g2 g3 g4 g5 g6 g7 g8)
theorem s_aload_n {n : Fin 4} {a : Nat} (C : Ctx E SOK mi x d) (hd : decode mi.2.1 pc = .ok (.aload_n n, 1)) (hl : ls[n.val]? = some (.ref a)) (k : J E mi x (pc + 1) ls (.ref a :: st) h) : J E mi x pc ls st h := by
  intro H locs cells slots lsM g1 g2 g3 g4 g5 g6 g7 g8
  exact lv_aload_n C.1 C.2.1 hd rfl (loc_get g3 hl rfl) (k H locs cells slots lsM g1 g2 g3 g4 g5 g6 g7 g8)
theorem s_istore {n : Nat} {a : Int32} {ls1 : List Value} (C : Ctx E SOK mi x d) (hd : decode mi.2.1 pc = .ok (.istore n, 2)) (hs : st1 ls n (.int a) = some ls1) (k : J E mi x (pc + 2) ls1 st h) : J E mi x pc ls (.int a :: st) h := by
  intro H locs cells slots lsM g1 g2 g3 g4 g5 g6 g7 g8
  refine lv_istore C.1 C.2.1 hd g3 (by rw [← g4]; exact st1_lt hs) rfl (fun ls' hl => ?_)
  obtain ⟨e1, e2, e3⟩ := loc_st1 hl hs
  exact k H locs cells slots ls' g1 g2 e1 (e3.trans g4) g5 g6 g7 g8
theorem s_istore_n {n : Fin 4} {a : Int32} {ls1 : List Value} (C : Ctx E SOK mi x d) (hd : decode mi.2.1 pc = .ok (.istore_n n, 1)) (hs : st1 ls n.val (.int a) = some ls1) (k : J E mi x (pc + 1) ls1 st h) : J E mi x pc ls (.int a :: st) h := by
  intro H locs cells slots lsM g1 g2 g3 g4 g5 g6 g7 g8
  refine lv_istore_n C.1 C.2.1 hd rfl g3 (by rw [← g4]; exact st1_lt hs) rfl (fun ls' hl => ?_)
  obtain ⟨e1, e2, e3⟩ := loc_st1 hl hs
  exact k H locs cells slots ls' g1 g2 e1 (e3.trans g4) g5 g6 g7 g8
theorem s_astore {n : Nat} {a : Nat} {ls1 : List Value} (C : Ctx E SOK mi x d) (hd : decode mi.2.1 pc = .ok (.astore n, 2)) (hs : st1 ls n (.ref a) = some ls1) (k : J E mi x (pc + 2) ls1 st h) : J E mi x pc ls (.ref a :: st) h := by
  intro H locs cells slots lsM g1 g2 g3 g4 g5 g6 g7 g8
  refine lv_astore C.1 C.2.1 hd g3 (by rw [← g4]; exact st1_lt hs) rfl (fun ls' hl => ?_)
  obtain ⟨e1, e2, e3⟩ := loc_st1 hl hs
  exact k H locs cells slots ls' g1 g2 e1 (e3.trans g4) g5 g6 g7 g8
theorem s_astore_n {n : Fin 4} {a : Nat} {ls1 : List Value} (C : Ctx E SOK mi x d) (hd : decode mi.2.1 pc = .ok (.astore_n n, 1)) (hs : st1 ls n.val (.ref a) = some ls1) (k : J E mi x (pc + 1) ls1 st h) : J E mi x pc ls (.ref a :: st) h := by
  intro H locs cells slots lsM g1 g2 g3 g4 g5 g6 g7 g8
  refine lv_astore_n C.1 C.2.1 hd rfl g3 (by rw [← g4]; exact st1_lt hs) rfl (fun ls' hl => ?_)
  obtain ⟨e1, e2, e3⟩ := loc_st1 hl hs
  exact k H locs cells slots ls' g1 g2 e1 (e3.trans g4) g5 g6 g7 g8
theorem s_lstore {n : Nat} {a : Int64} {ls1 : List Value} (C : Ctx E SOK mi x d) (hd : decode mi.2.1 pc = .ok (.lstore n, 2)) (hs : st2 ls n (.long a) = some ls1) (k : J E mi x (pc + 2) ls1 st h) : J E mi x pc ls (.long a :: st) h := by
  intro H locs cells slots lsM g1 g2 g3 g4 g5 g6 g7 g8
  refine lv_lstore C.1 C.2.1 hd g3 (by rw [← g4]; exact st2_lt hs) rfl (fun ls' hl => ?_)
  obtain ⟨e1, e2, e3⟩ := loc_st2 hl hs
  exact k H locs cells slots ls' g1 g2 e1 (e3.trans g4) g5 g6 g7 g8
theorem s_lstore_n {n : Fin 4} {a : Int64} {ls1 : List Value} (C : Ctx E SOK mi x d) (hd : decode mi.2.1 pc = .ok (.lstore_n n, 1)) (hs : st2 ls n.val (.long a) = some ls1) (k : J E mi x (pc + 1) ls1 st h) : J E mi x pc ls (.long a :: st) h := by
  intro H locs cells slots lsM g1 g2 g3 g4 g5 g6 g7 g8
  refine lv_lstore_n C.1 C.2.1 hd rfl g3 (by rw [← g4]; exact st2_lt hs) rfl (fun ls' hl => ?_)
  obtain ⟨e1, e2, e3⟩ := loc_st2 hl hs
  exact k H locs cells slots ls' g1 g2 e1 (e3.trans g4) g5 g6 g7 g8
theorem s_iinc {n : Nat} {c : Int} {v a : Int32} {ls1 : List Value} (C : Ctx E SOK mi x d) (hd : decode mi.2.1 pc = .ok (.iinc n c, 3)) (hl : ls[n]? = some (.int a)) (hv : Int32.ofInt c = v) (hs : st1 ls n (.int (a + v)) = some ls1) (k : J E mi x (pc + 3) ls1 st h) : J E mi x pc ls st h := by
  intro H locs cells slots lsM g1 g2 g3 g4 g5 g6 g7 g8
  have hm : (n, Value.int a) ∈ locL E ls := mem_locL.mpr ⟨.int a, hl, rfl, rfl⟩
  obtain ⟨kk, hkk⟩ := List.getElem?_of_mem hm
  refine lv_iinc (v := a + v) C.1 C.2.1 hd g3 hkk (by rw [hv]) (by rw [← g4]; exact st1_lt hs) rfl (fun ls' hl => ?_)
  obtain ⟨e1, e2, e3⟩ := loc_st1 hl hs
  exact k H locs cells slots ls' g1 g2 e1 (e3.trans g4) g5 g6 g7 g8
theorem s_goto {off : Int} {t : Nat} (C : Ctx E SOK mi x d) (hd : decode mi.2.1 pc = .ok (.goto off, 3)) (ht : (pc : Int) + off = (t : Int)) (k : J E mi x t ls st h) : J E mi x pc ls st h := by
  intro H locs cells slots lsM g1 g2 g3 g4 g5 g6 g7 g8
  exact lv_goto C.1 C.2.1 hd ht (k H locs cells slots lsM g1 g2 g3 g4 g5 g6 g7 g8)
theorem s_ifCond {c : ClassFile.Cond} {off : Int} {t : Nat} {a : Int32} (C : Ctx E SOK mi x d) (hd : decode mi.2.1 pc = .ok (.ifCond c off, 3)) (ht : (pc : Int) + off = (t : Int)) (k : J E mi x (if icond c a 0 = true then t else pc + 3) ls st h) : J E mi x pc ls (.int a :: st) h := by
  intro H locs cells slots lsM g1 g2 g3 g4 g5 g6 g7 g8
  cases c
  · refine lv_if_eq C.1 C.2.1 hd ht (fun hP => ?_) (fun hP => ?_)
    · rw [if_pos (by simp [icond, hP])] at k
      exact k H locs cells slots lsM g1 g2 g3 g4 g5 g6 g7 g8
    · rw [if_neg (by simp [icond, hP])] at k
      exact k H locs cells slots lsM g1 g2 g3 g4 g5 g6 g7 g8
  · refine lv_if_ne C.1 C.2.1 hd ht (fun hP => ?_) (fun hP => ?_)
    · rw [if_pos (by simp [icond, hP])] at k
      exact k H locs cells slots lsM g1 g2 g3 g4 g5 g6 g7 g8
    · rw [if_neg (by simp [icond, hP])] at k
      exact k H locs cells slots lsM g1 g2 g3 g4 g5 g6 g7 g8
  · refine lv_if_lt C.1 C.2.1 hd ht (fun hP => ?_) (fun hP => ?_)
    · rw [if_pos (by simp [icond, hP])] at k
      exact k H locs cells slots lsM g1 g2 g3 g4 g5 g6 g7 g8
    · rw [if_neg (by simp [icond, hP])] at k
      exact k H locs cells slots lsM g1 g2 g3 g4 g5 g6 g7 g8
  · refine lv_if_ge C.1 C.2.1 hd ht (fun hP => ?_) (fun hP => ?_)
    · rw [if_pos (by simp [icond, hP])] at k
      exact k H locs cells slots lsM g1 g2 g3 g4 g5 g6 g7 g8
    · rw [if_neg (by simp [icond, hP])] at k
      exact k H locs cells slots lsM g1 g2 g3 g4 g5 g6 g7 g8
  · refine lv_if_gt C.1 C.2.1 hd ht (fun hP => ?_) (fun hP => ?_)
    · rw [if_pos (by simp [icond, hP])] at k
      exact k H locs cells slots lsM g1 g2 g3 g4 g5 g6 g7 g8
    · rw [if_neg (by simp [icond, hP])] at k
      exact k H locs cells slots lsM g1 g2 g3 g4 g5 g6 g7 g8
  · refine lv_if_le C.1 C.2.1 hd ht (fun hP => ?_) (fun hP => ?_)
    · rw [if_pos (by simp [icond, hP])] at k
      exact k H locs cells slots lsM g1 g2 g3 g4 g5 g6 g7 g8
    · rw [if_neg (by simp [icond, hP])] at k
      exact k H locs cells slots lsM g1 g2 g3 g4 g5 g6 g7 g8
theorem s_if_icmp {c : ClassFile.Cond} {off : Int} {t : Nat} {a b : Int32} (C : Ctx E SOK mi x d) (hd : decode mi.2.1 pc = .ok (.if_icmp c off, 3)) (ht : (pc : Int) + off = (t : Int)) (k : J E mi x (if icond c a b = true then t else pc + 3) ls st h) : J E mi x pc ls (.int b :: .int a :: st) h := by
  intro H locs cells slots lsM g1 g2 g3 g4 g5 g6 g7 g8
  cases c
  · refine lv_icmp_eq C.1 C.2.1 hd ht (fun hP => ?_) (fun hP => ?_)
    · rw [if_pos (by simp [icond, hP])] at k
      exact k H locs cells slots lsM g1 g2 g3 g4 g5 g6 g7 g8
    · rw [if_neg (by simp [icond, hP])] at k
      exact k H locs cells slots lsM g1 g2 g3 g4 g5 g6 g7 g8
  · refine lv_icmp_ne C.1 C.2.1 hd ht (fun hP => ?_) (fun hP => ?_)
    · rw [if_pos (by simp [icond, hP])] at k
      exact k H locs cells slots lsM g1 g2 g3 g4 g5 g6 g7 g8
    · rw [if_neg (by simp [icond, hP])] at k
      exact k H locs cells slots lsM g1 g2 g3 g4 g5 g6 g7 g8
  · refine lv_icmp_lt C.1 C.2.1 hd ht (fun hP => ?_) (fun hP => ?_)
    · rw [if_pos (by simp [icond, hP])] at k
      exact k H locs cells slots lsM g1 g2 g3 g4 g5 g6 g7 g8
    · rw [if_neg (by simp [icond, hP])] at k
      exact k H locs cells slots lsM g1 g2 g3 g4 g5 g6 g7 g8
  · refine lv_icmp_ge C.1 C.2.1 hd ht (fun hP => ?_) (fun hP => ?_)
    · rw [if_pos (by simp [icond, hP])] at k
      exact k H locs cells slots lsM g1 g2 g3 g4 g5 g6 g7 g8
    · rw [if_neg (by simp [icond, hP])] at k
      exact k H locs cells slots lsM g1 g2 g3 g4 g5 g6 g7 g8
  · refine lv_icmp_gt C.1 C.2.1 hd ht (fun hP => ?_) (fun hP => ?_)
    · rw [if_pos (by simp [icond, hP])] at k
      exact k H locs cells slots lsM g1 g2 g3 g4 g5 g6 g7 g8
    · rw [if_neg (by simp [icond, hP])] at k
      exact k H locs cells slots lsM g1 g2 g3 g4 g5 g6 g7 g8
  · refine lv_icmp_le C.1 C.2.1 hd ht (fun hP => ?_) (fun hP => ?_)
    · rw [if_pos (by simp [icond, hP])] at k
      exact k H locs cells slots lsM g1 g2 g3 g4 g5 g6 g7 g8
    · rw [if_neg (by simp [icond, hP])] at k
      exact k H locs cells slots lsM g1 g2 g3 g4 g5 g6 g7 g8
end SIMR
