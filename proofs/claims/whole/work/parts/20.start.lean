/-! THE START: the law's entry in the pure machine's world; what is left is pure -/
section START
/-- what is left: every script is answered with 1, in the room -/
def PureClaim : Prop := ∀ (L : Nat) (X : Nat → Int32), L ≤ 3072 → ∃ (n : Nat) (h1 : PH), prun pT pN pF L X n 1000 331 0 [.ref 1000000, dV, dV, dV] [] ([], fun _ _ => none, fun _ _ => 0) = some (some (.int 1), h1) ∧ h1.1.length ≤ 600000 ∧ tot h1.1 ≤ 7302250
def nwC : List Cond := flatC (Jvm.Cond.and given_1 narrow_1)
def trmV : Term := .field (.string "AliasHouse$Reader" 102) "java/lang/String" "value" "[B"
theorem nw_el : (List.range 122).all (fun j => decide (Cond.eq (.elem trmV (.int (Int32.ofNat j))) (.int (kwC j)) ∈ nwC)) = true := by decide +kernel
theorem nw_ex : Cond.exactly (.string "AliasHouse$Reader" 102) "java/lang/String" ∈ nwC := by decide +kernel
theorem nw_co : Cond.eq (.field (.string "AliasHouse$Reader" 102) "java/lang/String" "coder" "B") (.int 0) ∈ nwC := by decide +kernel
theorem nw_ar : Cond.arrayOf trmV .byte ∈ nwC := by decide +kernel
theorem nw_le : Cond.eq (.length trmV) (.int (Int32.ofNat 122)) ∈ nwC := by decide +kernel
theorem nw_cs : Cond.eq (.static "java/lang/String" "COMPACT_STRINGS" "Z") (.int 1) ∈ nwC := by decide +kernel
theorem nw_fm : Cond.isRef (.static "jdk/internal/util/Preconditions" "SIOOBE_FORMATTER" "Ljava/util/function/BiFunction;") ∈ nwC := by decide +kernel
theorem tb_over : Cond.arrayOver (.object "AliasHouse$World") ∈ lw_tbl := List.mem_of_getElem? (i := 540) (by decide +kernel)
theorem tb_sref : Cond.stringRef "AliasHouse$Reader" 102 kwText ∈ lw_tbl := List.mem_of_getElem? (i := 909) (by decide +kernel)
theorem tb_cs : Cond.laysStatic "java/lang/String" "COMPACT_STRINGS" "Z" ∈ lw_tbl := List.mem_of_getElem? (i := 919) (by decide +kernel)
theorem tb_fm : Cond.laysStatic "jdk/internal/util/Preconditions" "SIOOBE_FORMATTER" "Ljava/util/function/BiFunction;" ∈ lw_tbl := List.mem_of_getElem? (i := 935) (by decide +kernel)
theorem kwLen : kwB.length = 122 := by decide +kernel
theorem sf_start {args : Array Value} {s : State} (hts : ∀ w ∈ lw_tbl, w.before args s = true) (hnw : ∀ w ∈ nwC, w.before args s = true) : ∃ aS aV : Nat, vk_R "AliasHouse$Reader" 102 kwText aS s ∧ SF aS aV s s.heap := by
  have hGW : ∀ w ∈ GW, w.before args s = true := fun w hw => hts w (List.mem_filter.mp hw).1
  obtain ⟨adK, adV, hS, hev⟩ := vk_Sof (args := args) (s := s) (N := 1) (tm := fun _ => .string "AliasHouse$Reader" 102) (len := [122]) (byt := [(List.range 122).map kwC]) (A := fun _ => False)
    (fun i hi => by rw [show i = 0 by omega]; decide) (fun i _ => hnw _ nw_ex) (fun i _ => hnw _ nw_co) (fun i _ => hnw _ nw_ar) (fun i hi => by rw [show i = 0 by omega]; exact hnw _ nw_le)
    (fun i hi j hj => by
      have hi0 : i = 0 := by omega
      subst hi0
      have hj2 : j < 122 := hj
      have h1 := List.all_eq_true.mp nw_el j (List.mem_range.mpr hj2)
      simp only [decide_eq_true_eq] at h1
      have h2 := hnw _ h1
      have e : (([(List.range 122).map kwC] : List (List Int32)).getD 0 []).getD j 0 = kwC j := by
        show ((List.range 122).map kwC).getD j 0 = kwC j
        rw [List.getD_eq_getElem?_getD, List.getElem?_map, List.getElem?_range hj2]
        rfl
      rw [e]
      exact h2)
    (fun i j hi hj hij => absurd (show i = j by omega) hij) (fun a _ h => h)
  obtain ⟨h1, h2, h3, h4⟩ := hS.1 0 (by omega)
  refine ⟨adK 0, adV 0, vk_R.of (A := args) (hts _ tb_sref) (hev 0 (by omega)), va_Zof (hts _ tb_cs) (hGW _ jini_S) (va_eqi (hnw _ nw_cs)) (fun a _ h => h), va_Zqof (hts _ tb_fm) (hGW _ jini_P) (hnw _ nw_fm) (fun a _ h => h), h1, h2, h3, ?_⟩
  obtain ⟨cell, q1, q2, q3, q4, q5, q6, q7⟩ := h4
  rw [kwLen]
  refine ⟨cell, q1, q2, q3, q4, q5, fun j hj => ?_, q7⟩
  rw [q6 j hj]
  have e : (([(List.range 122).map kwC] : List (List Int32)).getD 0 []).getD j 0 = kwC j := by
    show ((List.range 122).map kwC).getD j 0 = kwC j
    rw [List.getD_eq_getElem?_getD, List.getElem?_map, List.getElem?_range hj]
    rfl
  exact congrArg (fun v => some (Value.int v)) e
theorem tk_start {args : Array Value} {s : State} (hts : ∀ w ∈ lw_tbl, w.before args s = true) : ∃ (D : va_G) (cI cW : ClassId), va_K D pcl [(cI, .int), (cW, .object "AliasHouse$World")] s := by
  have hGW : ∀ w ∈ GW, w.before args s = true := fun w hw => hts w (List.mem_filter.mp hw).1
  have h0 : ∀ k : Nat, ∃ p : ClassId × (Nat → Nat), ∀ q : vw_C, pcl[k]? = some q → u_Kn s q.1 q.2.1 q.2.2 p.1 p.2 := by
    intro k
    cases hq : pcl[k]? with
    | none => exact ⟨(0, fun _ => 0), fun q h => by cases h⟩
    | some q =>
      obtain ⟨c1, c2, c3, c4, c5, c6, c7, c8⟩ := pcl_fact hq
      obtain ⟨cC, iS, h⟩ := u_known (C := q.1) (T := q.2.1) (N := q.2.2) (n := q.2.2) hGW c1 (hGW _ c5)
      exact ⟨(cC, iS), fun q' h' => by cases h'; exact h⟩
  obtain ⟨f, hf⟩ := Classical.axiomOfChoice h0
  obtain ⟨cI, kI, compI, i1, i2, i3⟩ := Cond.arrayClass_spec (hGW _ w_arrint)
  obtain ⟨comp, cW, kW, h1, h2, h3, h4, h5⟩ := Cond.arrayOver_spec (hts _ tb_over)
  refine ⟨(fun k => (f k).1, fun k => (f k).2), cI, cW, fun c q hq => hf c q hq, fun k q hq => ?_⟩
  match k, hq with
  | 0, hq => cases hq; exact ⟨fun n z => ⟨fun k h => (by cases h), kI, i2, compI, i3⟩, i1⟩
  | 1, hq => cases hq; exact ⟨fun n z => ⟨fun k h => (by cases h), kW, h3, comp, h4⟩, kW, comp, h3, h4, h1, h5⟩
  | k + 2, hq => simp at hq
set_option maxRecDepth 100000 in
theorem law_at : pM[331]? = some m_L_law := rfl
set_option maxRecDepth 100000 in
theorem lawT_at : pT[331]? = some (q_L_law, 1, 4, 2, 99) := rfl
theorem room_f : 1000 + 6 ≤ room_1.frames := by decide
theorem room_l : 40 * (1000 + 6) ≤ room_1.locals := by decide
theorem room_c : room_1.cells = 600000 := rfl
theorem room_s : room_1.slots = 7302250 := rfl
theorem law_own : oN.getD m_L_law.2.2.2.2.1 "" = R_law := rfl
/-- what is where the law begins -/
abbrev lwX (p : Program) (l : Launch) (e : Env) (s : State) (m : MethodId) (b : Nat) (below : List Frame) (meth : Method) (c : Code) : CTX := (p, l, e, room_1, s, m, #[Value.ref b], below, meth, c, lw_Z below #[Value.ref b] s, 0, 0)
theorem ctx_start {E : EV} {SOK : State → Prop} {p : Program} {l : Launch} {e : Env} {s : State} {m : MethodId} {below : List Frame} {meth : Method} {c : Code} {b : Nat} (hx : p.tables.exec = Jvm.exec) (hb : c.code = code) (hml : c.maxLocals = 4) (hown : s.vm.findClass R_law = some m.cls) (hts : ∀ w ∈ lw_tbl, w.before #[Value.ref b] s = true) (hTK : TK E s) (hS : SOK s) (hB : s.heap.size = eB E) : Ctx E SOK m_L_law (lwX p l e s m b below meth c) 1000 := by
  refine ⟨hx, hb, hml, ?_, fun w hw => hts w (List.mem_filter.mp hw).1, hTK, hS, fun h => (by cases h), hB, room_f, room_l⟩
  rw [law_own]
  exact hown
theorem ret_start {st : List Value} {op : Instr} (hrt : retV op 2 st = some (some (.int 1))) : op = .ireturn ∧ st = [.int 1] := by
  unfold retV at hrt
  split at hrt
  · split at hrt
    · split at hrt
      · cases hrt
      · cases hrt
    · cases hrt
  · split at hrt
    · split at hrt
      · cases hrt; exact ⟨rfl, rfl⟩
      · split at hrt
        · split at hrt
          · cases hrt; exact ⟨rfl, rfl⟩
          · cases hrt
        · cases hrt
    · cases hrt
  · split at hrt
    · split at hrt
      · cases hrt
      · cases hrt
    · cases hrt
  · split at hrt
    · split at hrt
      · cases hrt
      · cases hrt
    · cases hrt
  · cases hrt
theorem hret_start {E : EV} {p : Program} {l : Launch} {e : Env} {s : State} {m : MethodId} {below : List Frame} {meth : Method} {c : Code} {b : Nat} {h1 : PH} (hx : p.tables.exec = Jvm.exec) (hb : c.code = code) (hr : meth.sig.returnType = ret) (hlocks : meth.locks = false) (hB : s.heap.size = eB E) (hc1 : h1.1.length ≤ 600000) (hc2 : tot h1.1 ≤ 7302250) : HRet E m_L_law (q_L_law, 1, 4, 2, 99) (lwX p l e s m b below meth c) (some (.int 1)) h1 := by
  intro op pc st H locs cells slots lsM hdec hrt hH1 hl hc hs
  obtain ⟨rfl, rfl⟩ := ret_start hrt
  refine va_forget (fun q hq => by show s.heap.size ≤ _; rw [hB]; exact hl q hq) ?_
  have h3 : cells = h1.1.length := hc
  have h4 : slots = tot h1.1 := hs
  refine W.widen (k := 600000) (n := 7302250) (by rw [h3]; exact hc1) (by rw [h4]; exact hc2) ?_
  exact lw_ret hx hb hr hlocks hdec
theorem start_of (hPC : PureClaim) {p : Program} {e : Env} {s : State} {m : MethodId} {below : List Frame} {meth : Method} {c : Code} (l : Launch) {b L : Nat} {xs : Nat → Int32} (hL : L ≤ 3072) (C0 : lw_At p s m meth c b L xs) : W p l e room_1 s m #[Value.ref b] below meth c s.heap [] 0 0 (lw_Z below #[Value.ref b] s) (entryFrame m ([Value.ref b] : List Value).toArray 4) := by
  obtain ⟨hx, hb, hr, hml, hown, hts, hX, hbl, hlocks, hgv⟩ := id C0
  have hnw : ∀ w ∈ nwC, w.before #[Value.ref b] s = true := flat_of_before _ hgv
  obtain ⟨aS, aV, hR, hSF⟩ := sf_start hts hnw
  obtain ⟨D, cI, cW, hK⟩ := tk_start hts
  obtain ⟨n, h1, hrun, hc1, hc2⟩ := hPC L xs hL
  obtain ⟨E, hE0⟩ : ∃ E : EV, E = (D, cI, cW, s.heap.size, b, aS, s.heap, L, xs) := ⟨_, rfl⟩
  have hE : EOK E := by rw [hE0]; exact ⟨hbl, rfl⟩
  have hTK : TK E s := by
    rw [hE0]
    exact ⟨hK, fun w hw => va_Nw.of (by have h2 := (List.mem_filter.mp hw).2; cases w <;> first | rfl | (cases h2; done)) (hts w (List.mem_filter.mp hw).1), va_AO.of (hts _ tb_over), hX⟩
  have hSO : SOKS E aV s := by rw [hE0]; exact ⟨hR, hSF⟩
  have hB : s.heap.size = eB E := by rw [hE0]
  have hH : eH E = s.heap := by rw [hE0]
  have hL1 : eL E = L := by rw [hE0]
  have hX1 : eX E = xs := by rw [hE0]
  have hS0 : ad E 1000000 = b := by rw [hE0]; rfl
  rw [← hL1, ← hX1] at hrun
  have hJ := sim (SOKS_ok E aV) (str_rows E aV hE) hE n 1000 331 0 _ _ _ _ _ hrun m_L_law (q_L_law, 1, 4, 2, 99) law_at lawT_at (lwX p l e s m b below meth c) (ctx_start hx hb hml hown hts hTK hSO hB)
    (by show _ ≤ 0 + room_1.cells; rw [Nat.zero_add, room_c]; exact hc1) (by show _ ≤ 0 + room_1.slots; rw [Nat.zero_add, room_s]; exact hc2) (hret_start hx hb hr hlocks hB hc1 hc2)
  have hl := lv_entry ([.ref b]) (n := 4) (Nat.le_of_ble_eq_true rfl)
  rw [lg_entry_eq]
  generalize (lg_sl ([.ref b]) ++ List.replicate (4 - (lg_sl ([.ref b])).length) Slot.unset).toArray = lsM at hl ⊢
  have hl : lv_has lsM 4 [(0, .ref b)] := hl
  have hl2 : lv_has lsM 4 (locL E [.ref 1000000, dV, dV, dV]) := by
    have : locL E [.ref 1000000, dV, dV, dV] = [(0, .ref (ad E 1000000))] := rfl
    rw [this, hS0]
    exact hl
  exact hJ s.heap [] 0 0 lsM ⟨fun k q h => by simp [wsOf] at h, hB, fun q _ => by rw [hH], ⟨Nat.zero_le _, fun a c n h => by simp at h⟩⟩ (fun q hq => by cases hq) hl2 rfl rfl rfl (Nat.zero_le _) (Nat.zero_le _)
end START
