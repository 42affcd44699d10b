/-! the one text: String.length, String.charAt of the keywords' text, by their bytecode -/
def kwText : String := "seen costs gains when or and not rank wits eyes known purse hour street others day alias from to in on at walk give lie by"
def jn_length : MethodName := ⟨"java/lang/String", "length", "()I"⟩
abbrev jb_length : ByteArray := prog_17_method_54_code
theorem jc_length : Cond.code jn_length jb_length 1 (some .int) ∈ GW := inGW (i := 913) (by decide +kernel) rfl
theorem ji_length : Cond.instanceMethod jn_length ∈ GW := inGW (i := 911) (by decide +kernel) rfl
theorem js_length : Cond.selects "java/lang/String" jn_length jn_length ∈ GW := inGW (i := 912) (by decide +kernel) rfl
theorem jd_length_0 : decode jb_length 0 = .ok (.aload_n 0, 1) := by decide +kernel
theorem jd_length_1 : decode jb_length 1 = .ok (.getfield 9, 3) := by decide +kernel
theorem jd_length_4 : decode jb_length 4 = .ok (.arraylength, 1) := by decide +kernel
theorem jd_length_5 : decode jb_length 5 = .ok (.aload_n 0, 1) := by decide +kernel
theorem jd_length_6 : decode jb_length 6 = .ok (.invokevirtual 335, 3) := by decide +kernel
theorem jd_length_9 : decode jb_length 9 = .ok (.ishr, 1) := by decide +kernel
theorem jd_length_10 : decode jb_length 10 = .ok (.ireturn, 1) := by decide +kernel
def jn_coder : MethodName := ⟨"java/lang/String", "coder", "()B"⟩
abbrev jb_coder : ByteArray := prog_17_method_152_code
theorem jc_coder : Cond.code jn_coder jb_coder 1 (some .byte) ∈ GW := inGW (i := 917) (by decide +kernel) rfl
theorem ji_coder : Cond.instanceMethod jn_coder ∈ GW := inGW (i := 915) (by decide +kernel) rfl
theorem js_coder : Cond.selects "java/lang/String" jn_coder jn_coder ∈ GW := inGW (i := 916) (by decide +kernel) rfl
theorem jd_coder_0 : decode jb_coder 0 = .ok (.getstatic 38, 3) := by decide +kernel
theorem jd_coder_3 : decode jb_coder 3 = .ok (.ifCond .eq 10, 3) := by decide +kernel
theorem jd_coder_6 : decode jb_coder 6 = .ok (.aload_n 0, 1) := by decide +kernel
theorem jd_coder_7 : decode jb_coder 7 = .ok (.getfield 15, 3) := by decide +kernel
theorem jd_coder_10 : decode jb_coder 10 = .ok (.goto 4, 3) := by decide +kernel
theorem jd_coder_13 : decode jb_coder 13 = .ok (.iconst 1, 1) := by decide +kernel
theorem jd_coder_14 : decode jb_coder 14 = .ok (.ireturn, 1) := by decide +kernel
def jn_charAt : MethodName := ⟨"java/lang/String", "charAt", "(I)C"⟩
abbrev jb_charAt : ByteArray := prog_17_method_56_code
theorem jc_charAt : Cond.code jn_charAt jb_charAt 2 (some .char) ∈ GW := inGW (i := 923) (by decide +kernel) rfl
theorem ji_charAt : Cond.instanceMethod jn_charAt ∈ GW := inGW (i := 921) (by decide +kernel) rfl
theorem js_charAt : Cond.selects "java/lang/String" jn_charAt jn_charAt ∈ GW := inGW (i := 922) (by decide +kernel) rfl
theorem jd_charAt_0 : decode jb_charAt 0 = .ok (.aload_n 0, 1) := by decide +kernel
theorem jd_charAt_1 : decode jb_charAt 1 = .ok (.invokevirtual 492, 3) := by decide +kernel
theorem jd_charAt_4 : decode jb_charAt 4 = .ok (.ifCond .eq 12, 3) := by decide +kernel
theorem jd_charAt_7 : decode jb_charAt 7 = .ok (.aload_n 0, 1) := by decide +kernel
theorem jd_charAt_8 : decode jb_charAt 8 = .ok (.getfield 9, 3) := by decide +kernel
theorem jd_charAt_11 : decode jb_charAt 11 = .ok (.iload_n 1, 1) := by decide +kernel
theorem jd_charAt_12 : decode jb_charAt 12 = .ok (.invokestatic 495, 3) := by decide +kernel
theorem jd_charAt_15 : decode jb_charAt 15 = .ok (.ireturn, 1) := by decide +kernel
theorem jd_charAt_16 : decode jb_charAt 16 = .ok (.aload_n 0, 1) := by decide +kernel
theorem jd_charAt_17 : decode jb_charAt 17 = .ok (.getfield 9, 3) := by decide +kernel
theorem jd_charAt_20 : decode jb_charAt 20 = .ok (.iload_n 1, 1) := by decide +kernel
theorem jd_charAt_21 : decode jb_charAt 21 = .ok (.invokestatic 498, 3) := by decide +kernel
theorem jd_charAt_24 : decode jb_charAt 24 = .ok (.ireturn, 1) := by decide +kernel
def jn_isLatin1 : MethodName := ⟨"java/lang/String", "isLatin1", "()Z"⟩
abbrev jb_isLatin1 : ByteArray := prog_17_method_154_code
theorem jc_isLatin1 : Cond.code jn_isLatin1 jb_isLatin1 1 (some .boolean) ∈ GW := inGW (i := 927) (by decide +kernel) rfl
theorem ji_isLatin1 : Cond.instanceMethod jn_isLatin1 ∈ GW := inGW (i := 925) (by decide +kernel) rfl
theorem js_isLatin1 : Cond.selects "java/lang/String" jn_isLatin1 jn_isLatin1 ∈ GW := inGW (i := 926) (by decide +kernel) rfl
theorem jd_isLatin1_0 : decode jb_isLatin1 0 = .ok (.getstatic 38, 3) := by decide +kernel
theorem jd_isLatin1_3 : decode jb_isLatin1 3 = .ok (.ifCond .eq 14, 3) := by decide +kernel
theorem jd_isLatin1_6 : decode jb_isLatin1 6 = .ok (.aload_n 0, 1) := by decide +kernel
theorem jd_isLatin1_7 : decode jb_isLatin1 7 = .ok (.getfield 15, 3) := by decide +kernel
theorem jd_isLatin1_10 : decode jb_isLatin1 10 = .ok (.ifCond .ne 7, 3) := by decide +kernel
theorem jd_isLatin1_13 : decode jb_isLatin1 13 = .ok (.iconst 1, 1) := by decide +kernel
theorem jd_isLatin1_14 : decode jb_isLatin1 14 = .ok (.goto 4, 3) := by decide +kernel
theorem jd_isLatin1_17 : decode jb_isLatin1 17 = .ok (.iconst 0, 1) := by decide +kernel
theorem jd_isLatin1_18 : decode jb_isLatin1 18 = .ok (.ireturn, 1) := by decide +kernel
def jn_lcharAt : MethodName := ⟨"java/lang/StringLatin1", "charAt", "([BI)C"⟩
abbrev jb_lcharAt : ByteArray := prog_18_method_2_code
theorem jc_lcharAt : Cond.code jn_lcharAt jb_lcharAt 2 (some .char) ∈ GW := inGW (i := 930) (by decide +kernel) rfl
theorem jt_lcharAt : Cond.static jn_lcharAt ∈ GW := inGW (i := 929) (by decide +kernel) rfl
theorem jd_lcharAt_0 : decode jb_lcharAt 0 = .ok (.iload_n 1, 1) := by decide +kernel
theorem jd_lcharAt_1 : decode jb_lcharAt 1 = .ok (.aload_n 0, 1) := by decide +kernel
theorem jd_lcharAt_2 : decode jb_lcharAt 2 = .ok (.arraylength, 1) := by decide +kernel
theorem jd_lcharAt_3 : decode jb_lcharAt 3 = .ok (.invokestatic 9, 3) := by decide +kernel
theorem jd_lcharAt_6 : decode jb_lcharAt 6 = .ok (.aload_n 0, 1) := by decide +kernel
theorem jd_lcharAt_7 : decode jb_lcharAt 7 = .ok (.iload_n 1, 1) := by decide +kernel
theorem jd_lcharAt_8 : decode jb_lcharAt 8 = .ok (.baload, 1) := by decide +kernel
theorem jd_lcharAt_9 : decode jb_lcharAt 9 = .ok (.sipush 255, 3) := by decide +kernel
theorem jd_lcharAt_12 : decode jb_lcharAt 12 = .ok (.iand, 1) := by decide +kernel
theorem jd_lcharAt_13 : decode jb_lcharAt 13 = .ok (.i2c, 1) := by decide +kernel
theorem jd_lcharAt_14 : decode jb_lcharAt 14 = .ok (.ireturn, 1) := by decide +kernel
def jn_checkIndex : MethodName := ⟨"java/lang/String", "checkIndex", "(II)V"⟩
abbrev jb_checkIndex : ByteArray := prog_17_method_155_code
theorem jc_checkIndex : Cond.code jn_checkIndex jb_checkIndex 2 (none) ∈ GW := inGW (i := 933) (by decide +kernel) rfl
theorem jt_checkIndex : Cond.static jn_checkIndex ∈ GW := inGW (i := 932) (by decide +kernel) rfl
theorem jd_checkIndex_0 : decode jb_checkIndex 0 = .ok (.iload_n 0, 1) := by decide +kernel
theorem jd_checkIndex_1 : decode jb_checkIndex 1 = .ok (.iload_n 1, 1) := by decide +kernel
theorem jd_checkIndex_2 : decode jb_checkIndex 2 = .ok (.getstatic 1053, 3) := by decide +kernel
theorem jd_checkIndex_5 : decode jb_checkIndex 5 = .ok (.invokestatic 1059, 3) := by decide +kernel
theorem jd_checkIndex_8 : decode jb_checkIndex 8 = .ok (.pop, 1) := by decide +kernel
theorem jd_checkIndex_9 : decode jb_checkIndex 9 = .ok (.return_, 1) := by decide +kernel
def jn_pcheck : MethodName := ⟨"jdk/internal/util/Preconditions", "checkIndex", "(IILjava/util/function/BiFunction;)I"⟩
abbrev jb_pcheck : ByteArray := prog_22_method_11_code
theorem jc_pcheck : Cond.code jn_pcheck jb_pcheck 3 (some .int) ∈ GW := inGW (i := 938) (by decide +kernel) rfl
theorem jt_pcheck : Cond.static jn_pcheck ∈ GW := inGW (i := 937) (by decide +kernel) rfl
theorem jd_pcheck_0 : decode jb_pcheck 0 = .ok (.iload_n 0, 1) := by decide +kernel
theorem jd_pcheck_1 : decode jb_pcheck 1 = .ok (.ifCond .lt 8, 3) := by decide +kernel
theorem jd_pcheck_4 : decode jb_pcheck 4 = .ok (.iload_n 0, 1) := by decide +kernel
theorem jd_pcheck_5 : decode jb_pcheck 5 = .ok (.iload_n 1, 1) := by decide +kernel
theorem jd_pcheck_6 : decode jb_pcheck 6 = .ok (.if_icmp .lt 10, 3) := by decide +kernel
theorem jd_pcheck_9 : decode jb_pcheck 9 = .ok (.aload_n 2, 1) := by decide +kernel
theorem jd_pcheck_10 : decode jb_pcheck 10 = .ok (.iload_n 0, 1) := by decide +kernel
theorem jd_pcheck_11 : decode jb_pcheck 11 = .ok (.iload_n 1, 1) := by decide +kernel
theorem jd_pcheck_12 : decode jb_pcheck 12 = .ok (.invokestatic 95, 3) := by decide +kernel
theorem jd_pcheck_15 : decode jb_pcheck 15 = .ok (.athrow, 1) := by decide +kernel
theorem jd_pcheck_16 : decode jb_pcheck 16 = .ok (.iload_n 0, 1) := by decide +kernel
theorem jd_pcheck_17 : decode jb_pcheck 17 = .ok (.ireturn, 1) := by decide +kernel
theorem jini_S : Cond.initialized "java/lang/String" ∈ GW := inGW (i := 180) (by decide +kernel) rfl
theorem jini_L : Cond.initialized "java/lang/StringLatin1" ∈ GW := inGW (i := 181) (by decide +kernel) rfl
theorem jini_P : Cond.initialized "jdk/internal/util/Preconditions" ∈ GW := inGW (i := 182) (by decide +kernel) rfl
theorem jf_cs : Cond.fieldLink "java/lang/String" 38 "java/lang/String" "COMPACT_STRINGS" "Z" ∈ GW := inGW (i := 918) (by decide +kernel) rfl
theorem jf_val : Cond.fieldLink "java/lang/String" 9 "java/lang/String" "value" "[B" ∈ GW := inGW (i := 2280) (by decide +kernel) rfl
theorem jf_cod : Cond.fieldLink "java/lang/String" 15 "java/lang/String" "coder" "B" ∈ GW := inGW (i := 2281) (by decide +kernel) rfl
theorem jf_fmt : Cond.fieldLink "java/lang/String" 1053 "jdk/internal/util/Preconditions" "SIOOBE_FORMATTER" "Ljava/util/function/BiFunction;" ∈ GW := inGW (i := 934) (by decide +kernel) rfl
theorem jl_coder : Cond.methodLink "java/lang/String" 335 jn_coder ∈ GW := inGW (i := 914) (by decide +kernel) rfl
theorem jl_isLatin1 : Cond.methodLink "java/lang/String" 492 jn_isLatin1 ∈ GW := inGW (i := 924) (by decide +kernel) rfl
theorem jl_lcharAt : Cond.methodLink "java/lang/String" 495 jn_lcharAt ∈ GW := inGW (i := 928) (by decide +kernel) rfl
theorem jl_checkIndex : Cond.methodLink "java/lang/StringLatin1" 9 jn_checkIndex ∈ GW := inGW (i := 931) (by decide +kernel) rfl
theorem jl_pcheck : Cond.methodLink "java/lang/String" 1059 jn_pcheck ∈ GW := inGW (i := 936) (by decide +kernel) rfl
section JSTR
/-- what is known of the text on the heap -/
def SF (aS aV : Nat) (U : State) (H : Heap) : Prop := va_Z "java/lang/String" "COMPACT_STRINGS" "Z" (.int 1) (fun _ => False) U H ∧ va_Zq "jdk/internal/util/Preconditions" "SIOOBE_FORMATTER" "Ljava/util/function/BiFunction;" (fun _ => False) U H ∧ va_O "java/lang/String" aS (fun _ => False) U H ∧ va_OF "java/lang/String" "coder" "B" (.int 0) aS (fun _ => False) U H ∧ va_OF "java/lang/String" "value" "[B" (.ref aV) aS (fun _ => False) U H ∧ va_T .byte aV kwB.length (fun j => .int (kwC j)) (fun _ => False) U H
theorem SF.moved {aS aV : Nat} {u U : State} {H : Heap} (hv : u.vm.Alike U.vm) (h : SF aS aV u H) : SF aS aV U H := ⟨va_Z.moved hv h.1, va_Zq.moved hv h.2.1, va_O.moved hv h.2.2.1, va_OF.moved hv h.2.2.2.1, va_OF.moved hv h.2.2.2.2.1, va_T.moved hv h.2.2.2.2.2⟩
theorem SF.kept {aS aV : Nat} {U : State} {H H1 : Heap} (h : SF aS aV U H) (hq : ∀ a : Nat, a < H.size → H1[a]? = H[a]?) : SF aS aV U H1 := ⟨h.1.kept (fun a ha _ => hq a ha), h.2.1.kept (fun a ha _ => hq a ha), h.2.2.1.kept (fun a ha _ => hq a ha), h.2.2.2.1.kept (fun a ha _ => hq a ha), h.2.2.2.2.1.kept (fun a ha _ => hq a ha), h.2.2.2.2.2.kept (fun a ha _ => hq a ha)⟩
def rmJ (k : Nat) : Room := { frames := k, cells := 0, slots := 0, locals := 40 * k }
def PJ (aS aV : Nat) (vs : List Value) : Array Value → State → Prop := fun v U => v = vs.toArray ∧ SF aS aV U U.heap
def QJ (rv : Option Value) : Array Value → State → Outcome → State → Prop := fun _ st o t => o = .returned rv ∧ t.heap = st.heap
theorem blindJ (aS aV : Nat) (vs : List Value) : FrameBlind (PJ aS aV vs) := fun a U g mk h => ⟨h.1, SF.moved (u := U) (Vm.Alike.refl U.vm) h.2⟩
def wsJ (y : MethodName) (b : ByteArray) (n : Nat) (r : Option FieldType) : List Cond := .code y b n r :: GW
theorem goodJ {y : MethodName} {b : ByteArray} {n : Nat} {r : Option FieldType} (hc : Cond.code y b n r ∈ GW) : GoodIn GW (wsJ y b n r) := by
  intro w hw
  rcases List.mem_cons.mp hw with rfl | hw
  · exact ⟨hc, GW_good hc⟩
  · exact ⟨hw, GW_good hw⟩
variable {p : Program} {l : Launch} {e : Env} {R : Room} {s : State} {m : MethodId} {args : Array Value} {below : List Frame} {meth : Method} {c : Code} {H : Heap} {locs : List Loc} {cells slots : Nat} {Q : State → Prop} {pc : Nat} {ls : Array Slot} {rest st0 : List Value} {a : Array Value} {rv : Option Value} {aS aV : Nat}
theorem j_after (hr : va_Run p l e R s m args below meth c H locs cells slots 0 0 (F0 m pc ls st0) rest (QJ rv a) (fun _ => False)) (k : W p l e R s m args below meth c H locs cells slots Q (F0 m (pc + 3) ls (rv.toList ++ rest))) : W p l e R s m args below meth c H locs cells slots Q (F0 m pc ls st0) := by
  intro T hT X
  obtain ⟨v, st₀, t, T', L, h0, X', hL, e1, e2, ⟨hv, hh⟩, st⟩ := hr T hT X
  have hv2 : v = rv := Outcome.returned.inj hv
  subst hv2
  have hLn : L = [] := by
    cases L with
    | nil => rfl
    | cons q r => exact (hL q List.mem_cons_self).elim
  subst hLn
  rw [List.append_nil] at X'
  obtain ⟨t2, a1, b1⟩ := k T' (by rw [e1, hh, h0]) X'
  exact ⟨t2, st t2 a1, b1⟩
set_option maxHeartbeats 4000000 in
theorem jm_coder (l : Launch) (aS aV : Nat) : Met l jn_coder (wsJ jn_coder jb_coder 1 (some .byte)) (rmJ 1) (PJ aS aV [.ref aS]) (QJ (some (.int 0))) 0 0 (fun _ => False) := by
  refine va_MetF (cc := jb_coder) (maxL := 1) (ret := some .byte) (by decide +kernel) rfl ?_
  intro p e s m args below meth c s₁ B hml hP
  obtain ⟨rfl, f1, f2, f3, f4, f5, f6⟩ := hP
  have hx := B.exec
  have hb := B.bytes
  have hr := B.returns
  have hlocks := B.notSynchronized
  have hts : ∀ w ∈ GW, w.before _ s = true := fun w hw => atoms_spec (ws := wsJ jn_coder jb_coder 1 (some .byte)) B.pre w (List.mem_cons_of_mem _ hw)
  have hown : s.vm.findClass "java/lang/String" = some m.cls := findClass_of_methodNamed B.named
  have hS : va_S (fun _ => False) s.heap s.heap [] := va_S.rf
  have hl := lv_entry ([.ref aS]) (n := 1) (Nat.le_of_ble_eq_true rfl)
  rw [lg_entry_eq]
  generalize (lg_sl ([.ref aS]) ++ List.replicate (1 - (lg_sl ([.ref aS])).length) Slot.unset).toArray = ls at hl ⊢
  have hl : lv_has ls 1 [(0, .ref aS)] := hl
  refine va_gets hx hb f1 hS hown (hts _ jf_cs) (fun _ h => h) jd_coder_0 ?_
  refine lv_if_eq (tgt := 13) hx hb jd_coder_3 (by decide) (fun hc => absurd hc (by decide)) (fun _ => ?_)
  refine lv_aload_n hx hb jd_coder_6 rfl (lv_at hl 0 rfl) ?_
  refine va_getX (N := 1) (i := 0) (v := fun _ => .int 0) (ad := fun _ => aS) hx hb (fun i _ => f4) (by decide) hS hown (hts _ jf_cod) (fun _ h => h) jd_coder_7 ?_
  refine lv_goto (tgt := 14) hx hb jd_coder_10 (by decide) ?_
  exact W.zret hx hb hr rfl (fun t ht hW => ⟨rfl, ht⟩) (fun q hq => by cases hq) jd_coder_14
set_option maxHeartbeats 4000000 in
theorem jm_isLatin1 (l : Launch) (aS aV : Nat) : Met l jn_isLatin1 (wsJ jn_isLatin1 jb_isLatin1 1 (some .boolean)) (rmJ 1) (PJ aS aV [.ref aS]) (QJ (some (.int 1))) 0 0 (fun _ => False) := by
  refine va_MetF (cc := jb_isLatin1) (maxL := 1) (ret := some .boolean) (by decide +kernel) rfl ?_
  intro p e s m args below meth c s₁ B hml hP
  obtain ⟨rfl, f1, f2, f3, f4, f5, f6⟩ := hP
  have hx := B.exec
  have hb := B.bytes
  have hr := B.returns
  have hlocks := B.notSynchronized
  have hts : ∀ w ∈ GW, w.before _ s = true := fun w hw => atoms_spec (ws := wsJ jn_isLatin1 jb_isLatin1 1 (some .boolean)) B.pre w (List.mem_cons_of_mem _ hw)
  have hown : s.vm.findClass "java/lang/String" = some m.cls := findClass_of_methodNamed B.named
  have hS : va_S (fun _ => False) s.heap s.heap [] := va_S.rf
  have hl := lv_entry ([.ref aS]) (n := 1) (Nat.le_of_ble_eq_true rfl)
  rw [lg_entry_eq]
  generalize (lg_sl ([.ref aS]) ++ List.replicate (1 - (lg_sl ([.ref aS])).length) Slot.unset).toArray = ls at hl ⊢
  have hl : lv_has ls 1 [(0, .ref aS)] := hl
  refine va_gets hx hb f1 hS hown (hts _ jf_cs) (fun _ h => h) jd_isLatin1_0 ?_
  refine lv_if_eq (tgt := 17) hx hb jd_isLatin1_3 (by decide) (fun hc => absurd hc (by decide)) (fun _ => ?_)
  refine lv_aload_n hx hb jd_isLatin1_6 rfl (lv_at hl 0 rfl) ?_
  refine va_getX (N := 1) (i := 0) (v := fun _ => .int 0) (ad := fun _ => aS) hx hb (fun i _ => f4) (by decide) hS hown (hts _ jf_cod) (fun _ h => h) jd_isLatin1_7 ?_
  refine lv_if_ne (tgt := 17) hx hb jd_isLatin1_10 (by decide) (fun hc => absurd rfl hc) (fun _ => ?_)
  refine lv_iconst (v := 1) hx hb jd_isLatin1_13 (by decide) ?_
  refine lv_goto (tgt := 18) hx hb jd_isLatin1_14 (by decide) ?_
  exact W.zret hx hb hr rfl (fun t ht hW => ⟨rfl, ht⟩) (fun q hq => by cases hq) jd_isLatin1_18
set_option maxHeartbeats 4000000 in
theorem jm_length (l : Launch) (aS aV : Nat) : Met l jn_length (wsJ jn_length jb_length 1 (some .int)) (rmJ 2) (PJ aS aV [.ref aS]) (QJ (some (.int (Int32.ofNat kwB.length)))) 0 0 (fun _ => False) := by
  refine va_MetF (cc := jb_length) (maxL := 1) (ret := some .int) (by decide +kernel) rfl ?_
  intro p e s m args below meth c s₁ B hml hP
  have hP0 := hP
  obtain ⟨rfl, f1, f2, f3, f4, f5, f6⟩ := hP
  have hx := B.exec
  have hb := B.bytes
  have hr := B.returns
  have hlocks := B.notSynchronized
  have hts : ∀ w ∈ GW, w.before _ s = true := fun w hw => atoms_spec (ws := wsJ jn_length jb_length 1 (some .int)) B.pre w (List.mem_cons_of_mem _ hw)
  have hown : s.vm.findClass "java/lang/String" = some m.cls := findClass_of_methodNamed B.named
  have hS : va_S (fun _ => False) s.heap s.heap [] := va_S.rf
  have hl := lv_entry ([.ref aS]) (n := 1) (Nat.le_of_ble_eq_true rfl)
  rw [lg_entry_eq]
  generalize (lg_sl ([.ref aS]) ++ List.replicate (1 - (lg_sl ([.ref aS])).length) Slot.unset).toArray = ls at hl ⊢
  have hl : lv_has ls 1 [(0, .ref aS)] := hl
  refine lv_aload_n hx hb jd_length_0 rfl (lv_at hl 0 rfl) ?_
  refine va_getX (N := 1) (i := 0) (v := fun _ => .ref aV) (ad := fun _ => aS) hx hb (fun i _ => f5) (by decide) hS hown (hts _ jf_val) (fun _ h => h) jd_length_1 ?_
  refine va_tlen hx hb f6 hS rfl jd_length_4 ?_
  refine lv_aload_n hx hb jd_length_5 rfl (lv_at hl 0 rfl) ?_
  have hrecv : ∃ cell : Cell, s.heap[aS]? = some cell ∧ cell.vm.isStatics = false ∧ s.vm.findClass "java/lang/String" = some cell.cls := by
    obtain ⟨cell, q1, q2, q3, -⟩ := f3
    exact ⟨cell, q1, q2, q3⟩
  refine j_after (va_runV (As := []) (rest := [.int (Int32.ofNat kwB.length)]) (own := "java/lang/String") ⟨hx, hb, hml, hown, hts⟩ (jm_coder _ aS aV)
    ⟨callB_of 0 hts (goodJ jc_coder) rfl rfl rfl (hts _ jini_S) (hts _ jl_coder) ⟨by decide, by decide, by decide +kernel⟩ ⟨by decide, by decide⟩, hts _ ji_coder, hts _ js_coder⟩
    ⟨blindJ _ _ _, hrecv, fun U hU hW => ⟨rfl, by rw [hU]; exact SF.moved hW.alike hP0.2⟩⟩ rfl rfl hl.1 rfl (lv_room (by decide)) jd_length_6 ⟨Nat.le_refl _, Nat.le_refl _⟩) ?_
  refine lv_ishr hx hb jd_length_9 ?_
  have e : (Int32.ofNat kwB.length) >>> ((0 : Int32) &&& 31) = Int32.ofNat kwB.length := by decide +kernel
  rw [e]
  exact W.iret hx hb hr (fun t ht hW => ⟨rfl, ht⟩) (fun q hq => by cases hq) jd_length_10
set_option maxHeartbeats 4000000 in
theorem jm_pcheck (l : Launch) (aS aV : Nat) (i n : Int32) (w : Value) (hw : w = .null ∨ ∃ a, w = .ref a) (h0 : ¬ i < 0) (h1 : i < n) : Met l jn_pcheck (wsJ jn_pcheck jb_pcheck 3 (some .int)) (rmJ 1) (PJ aS aV [.int i, .int n, w]) (QJ (some (.int i))) 0 0 (fun _ => False) := by
  refine va_MetF (cc := jb_pcheck) (maxL := 3) (ret := some .int) (by decide +kernel) rfl ?_
  intro p e s m args below meth c s₁ B hml hP
  obtain ⟨rfl, -⟩ := hP
  have hx := B.exec
  have hb := B.bytes
  have hr := B.returns
  have hlocks := B.notSynchronized
  have key : ∀ ls : Array Slot, lv_has ls 3 [(0, .int i), (1, .int n)] → W p l e (headSpec (wsJ jn_pcheck jb_pcheck 3 (some .int)) (rmJ 1)).room s m ([Value.int i, .int n, w] : List Value).toArray below meth c s.heap [] 0 0 (MQ below (QJ (some (.int i))) ([Value.int i, .int n, w] : List Value).toArray s 0 0 (fun _ => False)) (F0 m 0 ls []) := by
    intro ls hl
    refine lv_iload_n hx hb jd_pcheck_0 rfl (lv_at hl 0 rfl) ?_
    refine lv_if_lt (tgt := 9) hx hb jd_pcheck_1 (by decide) (fun hc => absurd hc h0) (fun _ => ?_)
    refine lv_iload_n hx hb jd_pcheck_4 rfl (lv_at hl 0 rfl) ?_
    refine lv_iload_n hx hb jd_pcheck_5 rfl (lv_at hl 1 rfl) ?_
    refine lv_icmp_lt (tgt := 16) hx hb jd_pcheck_6 (by decide) (fun _ => ?_) (fun hc => absurd h1 hc)
    refine lv_iload_n hx hb jd_pcheck_16 rfl (lv_at hl 0 rfl) ?_
    exact W.iret hx hb hr (fun t ht hW => ⟨rfl, ht⟩) (fun q hq => by cases hq) jd_pcheck_17
  rw [lg_entry_eq]
  rcases hw with rfl | ⟨a, rfl⟩
  · exact key _ (lv_sub (lv_entry ([.int i, .int n, .null]) (n := 3) (Nat.le_of_ble_eq_true rfl)) [0, 1] rfl)
  · exact key _ (lv_sub (lv_entry ([.int i, .int n, .ref a]) (n := 3) (Nat.le_of_ble_eq_true rfl)) [0, 1] rfl)
set_option maxHeartbeats 4000000 in
theorem jm_checkIndex (l : Launch) (aS aV : Nat) (i n : Int32) (h0 : ¬ i < 0) (h1 : i < n) : Met l jn_checkIndex (wsJ jn_checkIndex jb_checkIndex 2 none) (rmJ 2) (PJ aS aV [.int i, .int n]) (QJ none) 0 0 (fun _ => False) := by
  refine va_MetF (cc := jb_checkIndex) (maxL := 2) (ret := none) (by decide +kernel) rfl ?_
  intro p e s m args below meth c s₁ B hml hP
  have hP0 := hP
  obtain ⟨rfl, f1, f2, f3, f4, f5, f6⟩ := hP
  have hx := B.exec
  have hb := B.bytes
  have hr := B.returns
  have hlocks := B.notSynchronized
  have hts : ∀ w ∈ GW, w.before _ s = true := fun w hw => atoms_spec (ws := wsJ jn_checkIndex jb_checkIndex 2 none) B.pre w (List.mem_cons_of_mem _ hw)
  have hown : s.vm.findClass "java/lang/String" = some m.cls := findClass_of_methodNamed B.named
  have hS : va_S (fun _ => False) s.heap s.heap [] := va_S.rf
  have hl := lv_entry ([.int i, .int n]) (n := 2) (Nat.le_of_ble_eq_true rfl)
  rw [lg_entry_eq]
  generalize (lg_sl ([.int i, .int n]) ++ List.replicate (2 - (lg_sl ([.int i, .int n])).length) Slot.unset).toArray = ls at hl ⊢
  have hl : lv_has ls 2 [(0, .int i), (1, .int n)] := hl
  refine lv_iload_n hx hb jd_checkIndex_0 rfl (lv_at hl 0 rfl) ?_
  refine lv_iload_n hx hb jd_checkIndex_1 rfl (lv_at hl 1 rfl) ?_
  have fin : ∀ w : Value, (w = .null ∨ ∃ a, w = .ref a) → va_Z "jdk/internal/util/Preconditions" "SIOOBE_FORMATTER" "Ljava/util/function/BiFunction;" w (fun _ => False) s s.heap → W p l e (headSpec (wsJ jn_checkIndex jb_checkIndex 2 none) (rmJ 2)).room s m ([Value.int i, .int n] : List Value).toArray below meth c s.heap [] 0 0 (MQ below (QJ none) ([Value.int i, .int n] : List Value).toArray s 0 0 (fun _ => False)) (F0 m 2 ls [.int n, .int i]) := by
    intro w hw hz
    refine va_gets hx hb hz hS hown (hts _ jf_fmt) (fun _ h => h) jd_checkIndex_2 ?_
    refine j_after (va_runS (As := [.int i, .int n, w]) (rest := []) (own := "java/lang/String") ⟨hx, hb, hml, hown, hts⟩ (jm_pcheck _ aS aV i n w hw h0 h1)
      ⟨callB_of 3 hts (goodJ jc_pcheck) rfl rfl rfl (hts _ jini_P) (hts _ jl_pcheck) ⟨by decide, by decide, by decide +kernel⟩ ⟨by decide, by decide⟩, hts _ jt_pcheck⟩
      ⟨blindJ _ _ _, fun U hU hW => ⟨rfl, by rw [hU]; exact SF.moved hW.alike hP0.2⟩⟩ rfl rfl hl.1 rfl (lv_room (by decide)) jd_checkIndex_5 ⟨Nat.le_refl _, Nat.le_refl _⟩) ?_
    refine lv_pop hx hb jd_checkIndex_8 rfl ?_
    exact W.vret hx hb hr (fun t ht hW => ⟨rfl, ht⟩) (fun q hq => by cases hq) jd_checkIndex_9
  rcases f2 with z | ⟨a, z⟩
  · exact fin _ (Or.inl rfl) z
  · exact fin _ (Or.inr ⟨a, rfl⟩) z
theorem kwC_ok : ∀ j, j < kwB.length → kwC j &&& 255 = kwC j ∧ ((kwC j).toUInt32 % 65536).toInt32 = kwC j ∧ (kwC j).toUInt32.toUInt16.toUInt32.toInt32 = kwC j ∧ narrow .char (.int (kwC j)) = .int (kwC j) := by decide +kernel
set_option maxHeartbeats 4000000 in
theorem jm_lcharAt (l : Launch) (aS aV : Nat) (i : Int32) (hi : inR i kwB.length = true) : Met l jn_lcharAt (wsJ jn_lcharAt jb_lcharAt 2 (some .char)) (rmJ 3) (PJ aS aV [.ref aV, .int i]) (QJ (some (.int (kwC i.toNatClampNeg)))) 0 0 (fun _ => False) := by
  refine va_MetF (cc := jb_lcharAt) (maxL := 2) (ret := some .char) (by decide +kernel) rfl ?_
  intro p e s m args below meth c s₁ B hml hP
  have hP0 := hP
  obtain ⟨rfl, f1, f2, f3, f4, f5, f6⟩ := hP
  have hx := B.exec
  have hb := B.bytes
  have hr := B.returns
  have hlocks := B.notSynchronized
  have hts : ∀ w ∈ GW, w.before _ s = true := fun w hw => atoms_spec (ws := wsJ jn_lcharAt jb_lcharAt 2 (some .char)) B.pre w (List.mem_cons_of_mem _ hw)
  have hown : s.vm.findClass "java/lang/StringLatin1" = some m.cls := findClass_of_methodNamed B.named
  have hS : va_S (fun _ => False) s.heap s.heap [] := va_S.rf
  have hin := vp_of_inR hi
  obtain ⟨j, hj, rfl⟩ := vp_in_of hin (by decide +kernel)
  have hcl : (nI j).toNatClampNeg = j := nI_clamp (Nat.lt_trans hj (by decide +kernel))
  rw [hcl]
  have hk := kwC_ok j hj
  have hl := lv_entry ([.ref aV, .int (nI j)]) (n := 2) (Nat.le_of_ble_eq_true rfl)
  rw [lg_entry_eq]
  generalize (lg_sl ([.ref aV, .int (nI j)]) ++ List.replicate (2 - (lg_sl ([.ref aV, .int (nI j)])).length) Slot.unset).toArray = ls at hl ⊢
  have hl : lv_has ls 2 [(0, .ref aV), (1, .int (nI j))] := hl
  refine lv_iload_n hx hb jd_lcharAt_0 rfl (lv_at hl 1 rfl) ?_
  refine lv_aload_n hx hb jd_lcharAt_1 rfl (lv_at hl 0 rfl) ?_
  refine va_tlen hx hb f6 hS (v := nI kwB.length) rfl jd_lcharAt_2 ?_
  refine j_after (va_runS (As := [.int (nI j), .int (nI kwB.length)]) (rest := []) (own := "java/lang/StringLatin1") ⟨hx, hb, hml, hown, hts⟩ (jm_checkIndex _ aS aV (nI j) (nI kwB.length) (nI_pos (Nat.lt_trans hj (by decide))) (nI_lt hj (by decide)))
    ⟨callB_of 2 hts (goodJ jc_checkIndex) rfl rfl rfl (hts _ jini_S) (hts _ jl_checkIndex) ⟨by decide, by decide, by decide +kernel⟩ ⟨by decide, by decide⟩, hts _ jt_checkIndex⟩
    ⟨blindJ _ _ _, fun U hU hW => ⟨rfl, by rw [hU]; exact SF.moved hW.alike hP0.2⟩⟩ rfl rfl hl.1 rfl (lv_room (by decide)) jd_lcharAt_3 ⟨Nat.le_refl _, Nat.le_refl _⟩) ?_
  refine lv_aload_n hx hb jd_lcharAt_6 rfl (lv_at hl 0 rfl) ?_
  refine lv_iload_n hx hb jd_lcharAt_7 rfl (lv_at hl 1 rfl) ?_
  refine va_tb hx hb f6 hS hin (v := .int (kwC j)) (by rw [hcl]) jd_lcharAt_8 ?_
  refine lv_sipush (v := 255) hx hb jd_lcharAt_9 (by decide) ?_
  refine lv_iand hx hb jd_lcharAt_12 ?_
  rw [hk.1]
  refine lv_i2c (v := kwC j) hx hb jd_lcharAt_13 (by first | exact hk.2.2.1 | exact hk.2.1) ?_
  exact W.zret hx hb hr hk.2.2.2 (fun t ht hW => ⟨rfl, ht⟩) (fun q hq => by cases hq) jd_lcharAt_14
set_option maxHeartbeats 4000000 in
theorem jm_charAt (l : Launch) (aS aV : Nat) (i : Int32) (hi : inR i kwB.length = true) : Met l jn_charAt (wsJ jn_charAt jb_charAt 2 (some .char)) (rmJ 4) (PJ aS aV [.ref aS, .int i]) (QJ (some (.int (kwC i.toNatClampNeg)))) 0 0 (fun _ => False) := by
  refine va_MetF (cc := jb_charAt) (maxL := 2) (ret := some .char) (by decide +kernel) rfl ?_
  intro p e s m args below meth c s₁ B hml hP
  have hP0 := hP
  obtain ⟨rfl, f1, f2, f3, f4, f5, f6⟩ := hP
  have hx := B.exec
  have hb := B.bytes
  have hr := B.returns
  have hlocks := B.notSynchronized
  have hts : ∀ w ∈ GW, w.before _ s = true := fun w hw => atoms_spec (ws := wsJ jn_charAt jb_charAt 2 (some .char)) B.pre w (List.mem_cons_of_mem _ hw)
  have hown : s.vm.findClass "java/lang/String" = some m.cls := findClass_of_methodNamed B.named
  have hS : va_S (fun _ => False) s.heap s.heap [] := va_S.rf
  have hin := vp_of_inR hi
  obtain ⟨j, hj, hij⟩ := vp_in_of hin (by decide +kernel)
  have hcl : i.toNatClampNeg = j := by rw [hij]; exact nI_clamp (Nat.lt_trans hj (by decide +kernel))
  have hk := kwC_ok j hj
  have hl := lv_entry ([.ref aS, .int i]) (n := 2) (Nat.le_of_ble_eq_true rfl)
  rw [lg_entry_eq]
  generalize (lg_sl ([.ref aS, .int i]) ++ List.replicate (2 - (lg_sl ([.ref aS, .int i])).length) Slot.unset).toArray = ls at hl ⊢
  have hl : lv_has ls 2 [(0, .ref aS), (1, .int i)] := hl
  have hrecv : ∃ cell : Cell, s.heap[aS]? = some cell ∧ cell.vm.isStatics = false ∧ s.vm.findClass "java/lang/String" = some cell.cls := by
    obtain ⟨cell, q1, q2, q3, -⟩ := f3
    exact ⟨cell, q1, q2, q3⟩
  refine lv_aload_n hx hb jd_charAt_0 rfl (lv_at hl 0 rfl) ?_
  refine j_after (va_runV (As := []) (rest := []) (own := "java/lang/String") ⟨hx, hb, hml, hown, hts⟩ (jm_isLatin1 _ aS aV)
    ⟨callB_of 0 hts (goodJ jc_isLatin1) rfl rfl rfl (hts _ jini_S) (hts _ jl_isLatin1) ⟨by decide, by decide, by decide +kernel⟩ ⟨by decide, by decide⟩, hts _ ji_isLatin1, hts _ js_isLatin1⟩
    ⟨blindJ _ _ _, hrecv, fun U hU hW => ⟨rfl, by rw [hU]; exact SF.moved hW.alike hP0.2⟩⟩ rfl rfl hl.1 rfl (lv_room (by decide)) jd_charAt_1 ⟨Nat.le_refl _, Nat.le_refl _⟩) ?_
  refine lv_if_eq (tgt := 16) hx hb jd_charAt_4 (by decide) (fun hc => absurd hc (by decide)) (fun _ => ?_)
  refine lv_aload_n hx hb jd_charAt_7 rfl (lv_at hl 0 rfl) ?_
  refine va_getX (N := 1) (i := 0) (v := fun _ => .ref aV) (ad := fun _ => aS) hx hb (fun i _ => f5) (by decide) hS hown (hts _ jf_val) (fun _ h => h) jd_charAt_8 ?_
  refine lv_iload_n hx hb jd_charAt_11 rfl (lv_at hl 1 rfl) ?_
  refine j_after (va_runS (As := [.ref aV, .int i]) (rest := []) (own := "java/lang/String") ⟨hx, hb, hml, hown, hts⟩ (jm_lcharAt _ aS aV i hi)
    ⟨callB_of 2 hts (goodJ jc_lcharAt) rfl rfl rfl (hts _ jini_L) (hts _ jl_lcharAt) ⟨by decide, by decide, by decide +kernel⟩ ⟨by decide, by decide⟩, hts _ jt_lcharAt⟩
    ⟨blindJ _ _ _, fun U hU hW => ⟨rfl, by rw [hU]; exact SF.moved hW.alike hP0.2⟩⟩ rfl rfl hl.1 rfl (lv_room (by decide)) jd_charAt_12 ⟨Nat.le_refl _, Nat.le_refl _⟩) ?_
  exact W.zret hx hb hr (by rw [hcl]; exact hk.2.2.2) (fun t ht hW => ⟨rfl, ht⟩) (fun q hq => by cases hq) jd_charAt_15
/-- what is known of the text, as the simulation wants it -/
def SOKS (E : EV) (aV : Nat) (U : State) : Prop := vk_R "AliasHouse$Reader" 102 kwText (eT E) U ∧ SF (eT E) aV U (eH E)
theorem SOKS_ok (E : EV) (aV : Nat) : SOKok (SOKS E aV) := ⟨fun u U hv h => ⟨vk_R.same (u := u) (U := U) hv.symm h.1, SF.moved (by rw [hv]; exact Vm.Alike.refl U.vm) h.2⟩, fun s U hW h => ⟨vk_R.warm hW h.1, SF.moved hW.alike h.2⟩⟩
theorem str_rows (E : EV) (aV : Nat) (hE : EOK E) : StrRows E (SOKS E aV) := by
  intro mi x d pc ls st h C
  have hts := C.2.2.2.2.1
  have hR := C.2.2.2.2.2.2.2.2.2
  refine ⟨fun hd h5 k => ?_, fun j hd hf hlow k => ?_, fun j n hd hf hlow hn k => ?_⟩
  · intro H locs cells slots lsM g1 g2 g3 g4 g5 g6 g7 g8
    have hown : (xs x).vm.findClass "AliasHouse$Reader" = some (xm x).cls := by
      have := C.2.2.2.1
      rw [h5] at this
      exact this
    exact va_ldcS C.1 C.2.1 hown C.2.2.2.2.2.2.1.1 hd (k H locs cells slots lsM g1 g2 g3 g4 g5 g6 g7 g8)
  · intro H locs cells slots lsM g1 g2 g3 g4 g5 g6 g7 g8
    have hSF : SF (eT E) aV (xs x) H := SF.kept C.2.2.2.2.2.2.1.2 (fun a ha => g1.2.2.1 a (by rw [hE.2]; exact ha))
    have hrecv : ∃ cell : Cell, H[eT E]? = some cell ∧ cell.vm.isStatics = false ∧ (xs x).vm.findClass "java/lang/String" = some cell.cls := by
      obtain ⟨cell, q1, q2, q3, -⟩ := hSF.2.2.1
      exact ⟨cell, q1, q2, q3⟩
    refine j_after (va_runV (As := []) (rest := st.map (va E)) (own := oN.getD mi.2.2.2.2.1 "") ⟨C.1, C.2.1, C.2.2.1, C.2.2.2.1, hts⟩ (jm_length _ (eT E) aV)
      ⟨callB_of 0 hts (goodJ jc_length) rfl rfl rfl (hts _ jini_S) (hts _ (bl_fact hf)) ⟨by decide, by decide, by decide +kernel⟩ ⟨by show 2 + 1 ≤ _; omega, by show 8 + (1 + 11) + 80 ≤ _; omega⟩, hts _ ji_length, hts _ js_length⟩
      ⟨blindJ _ _ _, hrecv, fun U hU hW => ⟨rfl, by rw [hU]; exact SF.moved hW.alike hSF⟩⟩ rfl rfl g3.1 rfl (lv_room (by rw [cat_map]; exact hlow)) hd ⟨g7, g8⟩) ?_
    exact k H locs cells slots lsM g1 g2 g3 g4 g5 g6 g7 g8
  · intro H locs cells slots lsM g1 g2 g3 g4 g5 g6 g7 g8
    have hSF : SF (eT E) aV (xs x) H := SF.kept C.2.2.2.2.2.2.1.2 (fun a ha => g1.2.2.1 a (by rw [hE.2]; exact ha))
    have hrecv : ∃ cell : Cell, H[eT E]? = some cell ∧ cell.vm.isStatics = false ∧ (xs x).vm.findClass "java/lang/String" = some cell.cls := by
      obtain ⟨cell, q1, q2, q3, -⟩ := hSF.2.2.1
      exact ⟨cell, q1, q2, q3⟩
    refine j_after (va_runV (As := [.int n]) (rest := st.map (va E)) (own := oN.getD mi.2.2.2.2.1 "") ⟨C.1, C.2.1, C.2.2.1, C.2.2.2.1, hts⟩ (jm_charAt _ (eT E) aV n hn)
      ⟨callB_of 1 hts (goodJ jc_charAt) rfl rfl rfl (hts _ jini_S) (hts _ (bl_fact hf)) ⟨by decide, by decide, by decide +kernel⟩ ⟨by show 4 + 1 ≤ _; omega, by show 8 + (2 + 11) + 160 ≤ _; omega⟩, hts _ ji_charAt, hts _ js_charAt⟩
      ⟨blindJ _ _ _, hrecv, fun U hU hW => ⟨rfl, by rw [hU]; exact SF.moved hW.alike hSF⟩⟩ rfl rfl g3.1 rfl (lv_room (by rw [cat_map]; exact hlow)) hd ⟨g7, g8⟩) ?_
    exact k H locs cells slots lsM g1 g2 g3 g4 g5 g6 g7 g8
end JSTR
