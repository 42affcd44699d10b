/-! calls, and the theorem: what the pure machine answers, the machine answers -/
section SIMC
variable {E : EV} {SOK : State → Prop} {mi : PInf} {x : CTX} {d pc : Nat} {ls st : List Value} {h : PH}
def wsM (m : PInf) : List Cond := .code m.1 m.2.1 m.2.2.1 m.2.2.2.1 :: GW
def rmD (d mc ms : Nat) : Room := { frames := d + 6, cells := mc, slots := ms, locals := 40 * (d + 6) }
def PcD (E : EV) (SOK : State → Prop) (vs : List Value) (h : PH) : Array Value → State → Prop := fun v U => v = (vs.map (va E)).toArray ∧ HP E h U.heap ∧ TK E U ∧ SOK U
def QcD (E : EV) (rv : Option Value) (h1 : PH) : Array Value → State → Outcome → State → Prop := fun _ _ o t => o = .returned (rv.map (va E)) ∧ HP E h1 t.heap
def SOKok (SOK : State → Prop) : Prop := (∀ u U : State, u.vm = U.vm → SOK u → SOK U) ∧ ∀ s U : State, s.WarmedH U.vm → SOK s → SOK U
theorem blindD (hS : SOKok SOK) (vs : List Value) : FrameBlind (PcD E SOK vs h) := by
  intro a U g mk hq
  exact ⟨hq.1, hq.2.1, TK.same (u := U) rfl hq.2.2.1, hS.1 U _ rfl hq.2.2.2⟩
theorem GW_good {w : Cond} (hw : w ∈ GW) : (w.onTables && w.keeps) = true ∨ ∃ ty, w = .arrayClass ty := good_of_word (List.mem_filter.mp hw).2
theorem goodM {m : PInf} (hc : Cond.code m.1 m.2.1 m.2.2.1 m.2.2.2.1 ∈ GW) : GoodIn GW (wsM m) := by
  intro w hw
  rcases List.mem_cons.mp hw with rfl | hw
  · exact ⟨hc, GW_good hc⟩
  · exact ⟨hw, GW_good hw⟩
/-- what the tables say of a method and of a link to it -/
theorem mt_static {m : PInf} {t : MR} {q : Nat × Nat × Nat × Nat} (hF : mF m t q = true) : Cond.initialized m.1.cls ∈ GW ∧ (m.1.cls ≠ "java/lang/invoke/MethodHandle" ∧ m.1.cls ≠ "java/lang/invoke/VarHandle") ∧ plainFor m.1 = true ∧ t.2.2.1 = m.2.2.1 ∧ t.2.2.1 ≤ 20 ∧ retOK m.2.2.2.1 t.2.2.2.1 = true ∧ m.1.cls = oN.getD m.2.2.2.2.1 "" ∧ m.2.2.2.2.2 = (m.1.name == "<init>") := by
  unfold mF at hF
  simp only [Bool.and_eq_true, decide_eq_true_eq, beq_iff_eq, Bool.not_eq_true', beq_eq_false_iff_ne, ne_eq] at hF
  obtain ⟨⟨⟨⟨⟨⟨⟨⟨⟨h1, h2⟩, h3⟩, h4⟩, h5⟩, h6⟩, h7⟩, h8⟩, h9⟩, h10⟩ := hF
  exact ⟨inGW h9 rfl, ⟨h4, h5⟩, h3, h1, h8, h2, h6, h7⟩
theorem hasM_spec {o i n sp : Nat} (h : hasM o i n sp = true) : ∃ (xs : List (Nat × Nat × Nat × Nat)) (kd pl : Nat), pML[o]? = some xs ∧ (i, n, kd, pl) ∈ xs ∧ (match kd with
    | 0 => sp == 0
    | 1 => sp == 1
    | 2 => sp == 1
    | _ => sp == 3) = true := by
  unfold hasM at h
  split at h
  · rename_i xs hx
    obtain ⟨⟨a, b, c, e⟩, he, h1⟩ := List.any_eq_true.mp h
    simp only [Bool.and_eq_true, beq_iff_eq] at h1
    obtain ⟨⟨rfl, rfl⟩, h2⟩ := h1
    exact ⟨xs, c, e, hx, he, h2⟩
  · cases h
theorem run_after {rv : Option Value} {h1 : PH} {H : Heap} {locs : List Loc} {cells slots mc ms : Nat} {lsM : Array Slot} {st0 rest : List Value} {a : Array Value}
    (hr : va_Run (xp x) (xl x) (xe x) (xR x) (xs x) (xm x) (xa x) (xb x) (xme x) (xc x) H locs cells slots mc ms (F0 (xm x) pc lsM st0) rest (QcD E rv h1 a) (fun q => eB E ≤ q)) (hl : ∀ q ∈ locs, eB E ≤ q.base)
    (k : ∀ (H1 : Heap) (locs1 : List Loc), HP E h1 H1 → (∀ q ∈ locs1, eB E ≤ q.base) → WX x H1 locs1 (cells + mc) (slots + ms) (F0 (xm x) (pc + 3) lsM ((rv.map (va E)).toList ++ rest))) : WX x H locs cells slots (F0 (xm x) pc lsM st0) := by
  intro T hT X
  obtain ⟨v, st₀, t, T', L, h0, X', hL, e1, e2, ⟨hv, hh⟩, st⟩ := hr T hT X
  have hv2 : v = rv.map (va E) := Outcome.returned.inj hv
  subst hv2
  obtain ⟨t2, a1, b1⟩ := k T'.heap (locs ++ L) (by rw [e1]; exact hh) (fun q hq => by
    rcases List.mem_append.mp hq with z | z
    · exact hl q z
    · exact hL q z) T' rfl X'
  exact ⟨t2, st t2 a1, b1⟩
/-- a callee's promise -/
def Kept (E : EV) (SOK : State → Prop) (m : PInf) (d : Nat) (vs : List Value) (h : PH) (rv : Option Value) (h1 : PH) : Prop :=
  ∀ l : Launch, Met l m.1 (wsM m) (rmD d (h1.1.length - h.1.length) (tot h1.1 - tot h.1)) (PcD E SOK vs h) (QcD E rv h1) (h1.1.length - h.1.length) (tot h1.1 - tot h.1) (fun q => eB E ≤ q)
theorem room_aux {d f l a : Nat} (h1 : d + 1 + 6 ≤ f) (h2 : 40 * (d + 1 + 6) ≤ l) (h3 : a ≤ 20) : d + 6 + 1 ≤ f ∧ 8 + (a + 11) + 40 * (d + 6) ≤ l := by omega
theorem s_call {op i : Instr} {z : Nat} {m : PInf} {t : MR} {vs rest : List Value} {rv : Option Value} {h1 : PH} (hSO : SOKok SOK) (C : Ctx E SOK mi x (d + 1)) (hd : decode mi.2.1 pc = .ok (i, 3)) (hz : z < 331) (hm : pM[z]? = some m) (ht : pT[z]? = some t)
    (hop : (∃ j, op = .invokevirtual z ∧ i = .invokevirtual j ∧ hasM mi.2.2.2.2.1 j z 0 = true) ∨ (∃ j, op = .invokestatic z ∧ i = .invokestatic j ∧ hasM mi.2.2.2.2.1 j z 1 = true) ∨ (∃ j, op = .invokespecial z ∧ i = .invokespecial j ∧ hasM mi.2.2.2.2.1 j z 3 = true))
    (hlen : vs.length = t.2.1) (hst : st = vs.reverse ++ rest) (hlow : (rest.map catV).sum ≤ 8) (hrv : recvOK t.2.2.2.2 vs h.1 = true) (hK : Kept E SOK m d vs h rv h1) (hg1 : h.1.length ≤ h1.1.length) (hg2 : tot h.1 ≤ tot h1.1) (hc1 : h1.1.length ≤ xn x + (xR x).cells) (hc2 : tot h1.1 ≤ xt x + (xR x).slots)
    (k : J E mi x (pc + 3) ls (rv.toList ++ rest) h1) : J E mi x pc ls st h := by
  intro H locs cells slots lsM g1 g2 g3 g4 g5 g6 g7 g8
  obtain ⟨q, hq, hF⟩ := mF_at hz hm ht
  obtain ⟨w1, w2, w3, w4, w5, w6, w7, w8⟩ := mt_static hF
  have hG := goodM (code_at hz hm)
  have hR := C.2.2.2.2.2.2.2.2.2
  have hts := C.2.2.2.2.1
  have hRR : (rmD d (h1.1.length - h.1.length) (tot h1.1 - tot h.1)).frames + 1 ≤ (xR x).frames ∧ 8 + (m.2.2.1 + 11) + (rmD d (h1.1.length - h.1.length) (tot h1.1 - tot h.1)).locals ≤ (xR x).locals := room_aux hR.1 hR.2 (by rw [← w4]; exact w5)
  have CF : CallFix (xp x) (xm x) (xc x) mi.2.1 mi.2.2.1 (xs x) (xa x) GW (oN.getD mi.2.2.2.2.1 "") := ⟨C.1, C.2.1, C.2.2.1, C.2.2.2.1, hts⟩
  have hroom : cells + (h1.1.length - h.1.length) ≤ (xR x).cells ∧ slots + (tot h1.1 - tot h.1) ≤ (xR x).slots := by omega
  have hpost : ∀ (H1 : Heap) (locs1 : List Loc), HP E h1 H1 → (∀ q ∈ locs1, eB E ≤ q.base) → WX x H1 locs1 (cells + (h1.1.length - h.1.length)) (slots + (tot h1.1 - tot h.1)) (F0 (xm x) (pc + 3) lsM ((rv.map (va E)).toList ++ rest.map (va E))) := by
    intro H1 locs1 hP1 hl1
    have := k H1 locs1 (cells + (h1.1.length - h.1.length)) (slots + (tot h1.1 - tot h.1)) lsM hP1 hl1 g3 g4 (by omega) (by omega) hroom.1 hroom.2
    rw [List.map_append] at this
    cases rv <;> exact this
  have hPre : ∀ U : State, U.heap = H → (xs x).WarmedH U.vm → PcD E SOK vs h (vs.map (va E)).toArray U := fun U hU hW => ⟨rfl, by rw [hU]; exact g1, TK.warm hW C.2.2.2.2.2.1, hSO.2 _ _ hW C.2.2.2.2.2.2.1⟩
  have hstM : st.map (va E) = (vs.map (va E)).reverse ++ rest.map (va E) := by rw [hst, List.map_append, List.map_reverse]
  have hcat : ((rest.map (va E)).map fun v => v.category).sum ≤ 8 := by rw [cat_map]; exact hlow
  rw [hstM]
  have hdesc : ∀ n : Nat, (parseMethodDescriptor m.1.desc).map (fun d => d.parameters.length) = some n → m.1.cls ≠ "java/lang/invoke/MethodHandle" ∧ m.1.cls ≠ "java/lang/invoke/VarHandle" ∧ (parseMethodDescriptor m.1.desc).map (fun d => d.parameters.length) = some n := fun n h => ⟨w2.1, w2.2, h⟩
  unfold mF at hF
  simp only [Bool.and_eq_true, Bool.or_eq_true, decide_eq_true_eq, beq_iff_eq, Bool.not_eq_true'] at hF
  have hF2 := hF.2
  rcases hop with ⟨j, -, rfl, hM⟩ | ⟨j, -, rfl, hM⟩ | ⟨j, -, rfl, hM⟩
  · -- a method of an object
    obtain ⟨xs2, kd, pl, e1, e2, e3⟩ := hasM_spec hM
    have hml := ml_at e1 e2
    unfold mlOK at hml
    rw [show pM[(j, z, kd, pl).2.1]? = some m from hm, show pMP[(j, z, kd, pl).2.1]? = some q from hq] at hml
    dsimp only at hml
    match kd, e3, hml with
    | 0, _, hml =>
      simp only [Bool.and_eq_true, decide_eq_true_eq, Bool.not_eq_true'] at hml
      obtain ⟨⟨m1, m2⟩, m3⟩ := hml
      rcases hF2 with ⟨⟨⟨f1, -⟩, -⟩, -⟩ | ⟨⟨f1, f2⟩, f3⟩
      · rw [m2] at f1; cases f1
      · rcases f2 with ⟨⟨f2, -⟩, -⟩ | ⟨⟨⟨-, f4⟩, f5⟩, f6⟩
        · rw [m3] at f2; cases f2
        · have hrc : t.2.2.2.2 < 13 := by omega
          unfold recvOK at hrv
          rw [if_neg (by omega)] at hrv
          match vs, hlen, hrv, hstM, hPre with
          | .ref b :: As, hlen, hrv, hstM, hPre =>
            dsimp only at hrv
            rw [if_neg (by omega)] at hrv
            obtain ⟨N, hN1, hN2⟩ := isObj_at hrc hrv g1.2.2.2
            have hq0 : ∃ q0 : vw_C, pcl[m.2.2.2.2.1]? = some q0 ∧ q0.1 = oN.getD m.2.2.2.2.1 "" := by
              have hlt : m.2.2.2.2.1 < 13 := f6
              generalize m.2.2.2.2.1 = oo at hlt
              match oo, hlt with
              | 0, _ => exact ⟨_, rfl, rfl⟩
              | 1, _ => exact ⟨_, rfl, rfl⟩
              | 2, _ => exact ⟨_, rfl, rfl⟩
              | 3, _ => exact ⟨_, rfl, rfl⟩
              | 4, _ => exact ⟨_, rfl, rfl⟩
              | 5, _ => exact ⟨_, rfl, rfl⟩
              | 6, _ => exact ⟨_, rfl, rfl⟩
              | 7, _ => exact ⟨_, rfl, rfl⟩
              | 8, _ => exact ⟨_, rfl, rfl⟩
              | 9, _ => exact ⟨_, rfl, rfl⟩
              | 10, _ => exact ⟨_, rfl, rfl⟩
              | 11, _ => exact ⟨_, rfl, rfl⟩
              | 12, _ => exact ⟨_, rfl, rfl⟩
              | oo + 13, h => exact absurd h (by omega)
            obtain ⟨q0, hq1, hq2⟩ := hq0
            rw [← f5] at hq1
            have hrecv := va_recv C.2.2.2.2.2.1.1 g1.1 hq1 (wsOf_at (E := E) hN1)
            rw [hq2, ← w7] at hrecv
            have hn : (parseMethodDescriptor m.1.desc).map (fun d => d.parameters.length) = some As.length := by
              cases hx : parseMethodDescriptor m.1.desc with
              | none => rw [hx] at f3; cases f3
              | some dd =>
                rw [hx] at f3
                have e3 : dd.parameters.length + 1 = t.2.1 := Option.some.inj f3
                simp only [List.length_cons] at hlen
                have e4 : dd.parameters.length = As.length := by omega
                show some dd.parameters.length = some As.length
                rw [e4]
            have cw : CallW (xR x) (xs x) (xa x) (oN.getD mi.2.2.2.2.1 "") m.1.cls j m.1 m.2.1 m.2.2.1 m.2.2.2.1 (wsM m) (rmD d (h1.1.length - h.1.length) (tot h1.1 - tot h.1)) (h1.1.length - h.1.length) (tot h1.1 - tot h.1) As.length :=
              ⟨callB_of As.length hts hG rfl rfl rfl (hts _ w1) (hts _ (inGW m1 rfl)) (hdesc _ hn) hRR, hts _ (inGW m2 rfl), hts _ (inGW f4 rfl)⟩
            have hrun := va_runV (e := xe x) (meth := xme x) (below := xb x) (H := H) (locs := locs) (cells := cells) (slots := slots) (As := As.map (va E)) (rest := rest.map (va E)) (b := ad E b) (g := F0 (xm x) pc lsM ((List.map (va E) (.ref b :: As)).reverse ++ rest.map (va E))) CF (hK (xl x)) cw
              ⟨blindD hSO _, hrecv, hPre⟩ rfl (by simp) g3.1 (by show _ = _; simp [va_r]) (lv_room hcat) hd hroom
            exact run_after hrun g2 hpost
          | [], hlen, hrv, _, _ => cases hrv
          | .int _ :: _, hlen, hrv, _, _ => cases hrv
          | .long _ :: _, hlen, hrv, _, _ => cases hrv
          | .float _ :: _, hlen, hrv, _, _ => cases hrv
          | .double _ :: _, hlen, hrv, _, _ => cases hrv
          | .null :: _, hlen, hrv, _, _ => cases hrv
          | .retAddr _ :: _, hlen, hrv, _, _ => cases hrv
    | 1, e3, _ => cases e3
    | 2, e3, _ => cases e3
    | kd + 3, e3, _ => cases e3
  · -- a static method
    obtain ⟨xs2, kd, pl, e1, e2, e3⟩ := hasM_spec hM
    have hml := ml_at e1 e2
    unfold mlOK at hml
    rw [show pM[(j, z, kd, pl).2.1]? = some m from hm, show pMP[(j, z, kd, pl).2.1]? = some q from hq] at hml
    dsimp only at hml
    match kd, e3, hml with
    | 0, e3, _ => cases e3
    | 1, _, hml =>
      simp only [Bool.and_eq_true, decide_eq_true_eq] at hml
      obtain ⟨m1, m2⟩ := hml
      have hn : (parseMethodDescriptor m.1.desc).map (fun d => d.parameters.length) = some vs.length := by
        rcases hF2 with ⟨⟨⟨f1, f3⟩, -⟩, -⟩ | ⟨⟨f1, f2⟩, f3⟩
        · rw [hlen]; exact f3
        · rw [m2] at f1; cases f1
      have hrun := va_runS (e := xe x) (meth := xme x) (below := xb x) (H := H) (locs := locs) (cells := cells) (slots := slots) (As := vs.map (va E)) (rest := rest.map (va E)) (g := F0 (xm x) pc lsM ((vs.map (va E)).reverse ++ rest.map (va E))) CF (hK (xl x))
        ⟨callB_of vs.length hts hG rfl rfl rfl (hts _ w1) (hts _ (inGW m1 rfl)) (hdesc _ hn) hRR, hts _ (inGW m2 rfl)⟩ ⟨blindD hSO _, hPre⟩ rfl (by simp) g3.1 rfl (lv_room hcat) hd hroom
      exact run_after hrun g2 hpost
    | 2, _, hml =>
      simp only [Bool.and_eq_true, decide_eq_true_eq] at hml
      obtain ⟨m1, m2⟩ := hml
      have hn : (parseMethodDescriptor m.1.desc).map (fun d => d.parameters.length) = some vs.length := by
        rcases hF2 with ⟨⟨⟨f1, f3⟩, -⟩, -⟩ | ⟨⟨f1, f2⟩, f3⟩
        · rw [hlen]; exact f3
        · rw [m2] at f1; cases f1
      have hnest : va_Nw (.methodLinkNest (oN.getD mi.2.2.2.2.1 "") j m.1 "AliasHouse") (xs x) := C.2.2.2.2.2.1.2.1 _ (List.mem_filter.mpr ⟨List.mem_of_getElem? m1, rfl⟩)
      have hrun := va_runSN (e := xe x) (meth := xme x) (below := xb x) (H := H) (locs := locs) (cells := cells) (slots := slots) (As := vs.map (va E)) (rest := rest.map (va E)) (g := F0 (xm x) pc lsM ((vs.map (va E)).reverse ++ rest.map (va E))) CF (hK (xl x))
        ⟨va_cnB vs.length hts hG rfl rfl rfl hnest (hts _ w1) (hdesc _ hn) hRR, hts _ (inGW m2 rfl), trivial⟩ ⟨blindD hSO _, hPre⟩ rfl (by simp) g3.1 rfl (lv_room hcat) hd hroom
      exact run_after hrun g2 hpost
    | kd + 3, e3, _ => cases e3
  · -- a constructor
    obtain ⟨xs2, kd, pl, e1, e2, e3⟩ := hasM_spec hM
    have hml := ml_at e1 e2
    unfold mlOK at hml
    rw [show pM[(j, z, kd, pl).2.1]? = some m from hm, show pMP[(j, z, kd, pl).2.1]? = some q from hq] at hml
    dsimp only at hml
    have hct : m.2.2.2.2.2 = true := by
      match kd, e3, hml with
      | 0, e3, _ => cases e3
      | 1, e3, _ => cases e3
      | 2, e3, _ => cases e3
      | 3, _, hml => simp only [Bool.and_eq_true] at hml; exact hml.2
      | 4, _, hml => simp only [Bool.and_eq_true] at hml; exact hml.2
      | kd + 5, _, hml => cases hml
    have hin : m.1.name = "<init>" := by
      rw [hct] at w8
      exact beq_iff_eq.mp w8.symm
    rcases hF2 with ⟨⟨⟨f1, f3⟩, f4⟩, f7⟩ | ⟨⟨f1, f2⟩, f3⟩
    · rw [hct] at f7; cases f7
    · rcases f2 with ⟨⟨-, f5⟩, f6⟩ | ⟨⟨⟨f5, -⟩, -⟩, -⟩
      · unfold recvOK at hrv
        rw [f6, if_neg (by decide)] at hrv
        match vs, hlen, hrv, hstM, hPre, hK with
        | .ref b :: As, hlen, hrv, hstM, hPre, hK =>
          have hn : (parseMethodDescriptor m.1.desc).map (fun d => d.parameters.length) = some As.length := by
            cases hx : parseMethodDescriptor m.1.desc with
            | none => rw [hx] at f3; cases f3
            | some dd =>
              rw [hx] at f3
              have e3 : dd.parameters.length + 1 = t.2.1 := Option.some.inj f3
              simp only [List.length_cons] at hlen
              have e4 : dd.parameters.length = As.length := by omega
              show some dd.parameters.length = some As.length
              rw [e4]
          have hG0 := hG
          unfold wsM at hG0
          rw [f5] at hG0
          have hK0 := hK (xl x)
          unfold wsM at hK0
          rw [f5] at hK0
          match kd, e3, hml with
          | 0, e3, _ => cases e3
          | 1, e3, _ => cases e3
          | 2, e3, _ => cases e3
          | 3, _, hml =>
            simp only [Bool.and_eq_true, decide_eq_true_eq] at hml
            have hrun := va_runI (e := xe x) (meth := xme x) (below := xb x) (H := H) (locs := locs) (cells := cells) (slots := slots) (As := As.map (va E)) (rest := rest.map (va E)) (b := ad E b) (g := F0 (xm x) pc lsM ((List.map (va E) (.ref b :: As)).reverse ++ rest.map (va E))) CF hK0
              ⟨callB_of As.length hts hG0 rfl rfl rfl (hts _ w1) (hts _ (inGW hml.1 rfl)) (hdesc _ hn) hRR, hin, hts _ (inGW f1 rfl)⟩ ⟨blindD hSO _, hPre⟩ rfl (by simp) g3.1 (by show _ = _; simp [va_r]) (lv_room hcat) hd hroom
            exact run_after hrun g2 hpost
          | 4, _, hml =>
            simp only [Bool.and_eq_true, decide_eq_true_eq] at hml
            have hnest : va_Nw (.methodLinkNest (oN.getD mi.2.2.2.2.1 "") j m.1 "AliasHouse") (xs x) := C.2.2.2.2.2.1.2.1 _ (List.mem_filter.mpr ⟨List.mem_of_getElem? hml.1, rfl⟩)
            have hrun := va_runIN (e := xe x) (meth := xme x) (below := xb x) (H := H) (locs := locs) (cells := cells) (slots := slots) (As := As.map (va E)) (rest := rest.map (va E)) (b := ad E b) (g := F0 (xm x) pc lsM ((List.map (va E) (.ref b :: As)).reverse ++ rest.map (va E))) CF hK0
              ⟨va_cnB As.length hts hG0 rfl rfl rfl hnest (hts _ w1) (hdesc _ hn) hRR, hin, hts _ (inGW f1 rfl)⟩ ⟨blindD hSO _, hPre⟩ rfl (by simp) g3.1 (by show _ = _; simp [va_r]) (lv_room hcat) hd hroom
            exact run_after hrun g2 hpost
          | kd + 5, _, hml => cases hml
        | [], hlen, hrv, _, _, _ => cases hrv
        | .int _ :: _, hlen, hrv, _, _, _ => cases hrv
        | .long _ :: _, hlen, hrv, _, _, _ => cases hrv
        | .float _ :: _, hlen, hrv, _, _, _ => cases hrv
        | .double _ :: _, hlen, hrv, _, _, _ => cases hrv
        | .null :: _, hlen, hrv, _, _, _ => cases hrv
        | .retAddr _ :: _, hlen, hrv, _, _, _ => cases hrv
      · rw [hct] at f5; cases f5
end SIMC
