/-! THE SIMULATION -/
section SIMT
variable {E : EV} {SOK : State → Prop}
theorem stp_mono {N : List Nat} {F : List (List Nat)} {L : Nat} {X : Nat → Int32} {op : Instr} {len pc pT pF' : Nat} {ls st ls1 st1 : List Value} {h h1 : PH} {ob b : Bool} (hst : stp N F L X op len pc ls st h = some (ob, b, pT, pF', ls1, st1, h1)) : h.1.length ≤ h1.1.length ∧ tot h.1 ≤ tot h1.1 := by
  unfold stp at hst
  repeat' split at hst
  all_goals first
    | (cases hst; done)
    | (simp only [go, goIf] at hst; cases hst; exact ⟨Nat.le_refl _, Nat.le_refl _⟩)
    | (cases hst; exact ⟨Nat.le_refl _, Nat.le_refl _⟩)
    | (simp only [go, goIf] at hst; cases hst; exact ⟨by simp, by rw [tot_push]; omega⟩)
theorem prun_mono {L : Nat} {X : Nat → Int32} : ∀ (n d y pc : Nat) (ls st : List Value) (h : PH) (rv : Option Value) (h1 : PH), prun pT pN pF L X n d y pc ls st h = some (rv, h1) → h.1.length ≤ h1.1.length ∧ tot h.1 ≤ tot h1.1 := by
  intro n
  induction n with
  | zero => intro d y pc ls st h rv h1 hr; rw [prun_0] at hr; cases hr
  | succ n ih =>
    intro d y pc ls st h rv h1 hr
    rw [prun_s] at hr
    unfold run1 at hr
    split at hr
    · cases hr
    · rename_i op len hf
      split at hr
      · split at hr
        · split at hr
          · cases hr; exact ⟨Nat.le_refl _, Nat.le_refl _⟩
          · cases hr
        · cases hr
      · split at hr
        · split at hr
          · split at hr
            · cases hr
            · split at hr
              · split at hr
                · rename_i v h2 hc
                  have a := ih _ _ _ _ _ _ _ _ hc
                  have b := ih _ _ _ _ _ _ _ _ hr
                  omega
                · cases hr
              · cases hr
          · cases hr
        · split at hr
          · rename_i ob b pT1 pF1 ls1 st1 h2 hst
            split at hr
            · have a := stp_mono hst
              have b := ih _ _ _ _ _ _ _ _ hr
              omega
            · cases hr
          · cases hr
theorem k_all {mi : PInf} {x : CTX} {d pc len pT pF' : Nat} {op i : Instr} {ls st ls1 st1 : List Value} {h h1 : PH} {b : Bool} (hStr : StrRows E SOK) (hE : EOK E) (C : Ctx E SOK mi x d) (hd : decode mi.2.1 pc = .ok (i, len)) (hchk : opChk mi.2.2.2.2.1 mi.2.2.2.2.2 pc len op i = true) (hret : isRet op = false) (hcal : callee op = none)
    (hst : stp pN pF (eL E) (eX E) op len pc ls st h = some (true, b, pT, pF', ls1, st1, h1)) (hc1 : h1.1.length ≤ xn x + (xR x).cells) (hc2 : tot h1.1 ≤ xt x + (xR x).slots) (k : J E mi x (if b = true then pT else pF') ls1 st1 h1) : J E mi x pc ls st h := by
  cases op with
  | aload n => exact k_aload hStr hE C hd hchk hst hc1 hc2 k
  | iload n => exact k_iload hStr hE C hd hchk hst hc1 hc2 k
  | lload n => exact k_lload hStr hE C hd hchk hst hc1 hc2 k
  | astore n => exact k_astore hStr hE C hd hchk hst hc1 hc2 k
  | istore n => exact k_istore hStr hE C hd hchk hst hc1 hc2 k
  | lstore n => exact k_lstore hStr hE C hd hchk hst hc1 hc2 k
  | iinc n c => exact k_iinc hStr hE C hd hchk hst hc1 hc2 k
  | iconst n => exact k_iconst hStr hE C hd hchk hst hc1 hc2 k
  | lconst n => exact k_lconst hStr hE C hd hchk hst hc1 hc2 k
  | ldc_w n => exact k_ldc_w hStr hE C hd hchk hst hc1 hc2 k
  | iadd => exact k_iadd hStr hE C hd hchk hst hc1 hc2 k
  | isub => exact k_isub hStr hE C hd hchk hst hc1 hc2 k
  | imul => exact k_imul hStr hE C hd hchk hst hc1 hc2 k
  | iand => exact k_iand hStr hE C hd hchk hst hc1 hc2 k
  | ior => exact k_ior hStr hE C hd hchk hst hc1 hc2 k
  | ixor => exact k_ixor hStr hE C hd hchk hst hc1 hc2 k
  | ishl => exact k_ishl hStr hE C hd hchk hst hc1 hc2 k
  | ishr => exact k_ishr hStr hE C hd hchk hst hc1 hc2 k
  | iushr => exact k_iushr hStr hE C hd hchk hst hc1 hc2 k
  | ineg => exact k_ineg hStr hE C hd hchk hst hc1 hc2 k
  | lsub => exact k_lsub hStr hE C hd hchk hst hc1 hc2 k
  | lmul => exact k_lmul hStr hE C hd hchk hst hc1 hc2 k
  | lcmp => exact k_lcmp hStr hE C hd hchk hst hc1 hc2 k
  | i2l => exact k_i2l hStr hE C hd hchk hst hc1 hc2 k
  | l2i => exact k_l2i hStr hE C hd hchk hst hc1 hc2 k
  | pop => exact k_pop hStr hE C hd hchk hst hc1 hc2 k
  | idiv => exact k_idiv hStr hE C hd hchk hst hc1 hc2 k
  | irem => exact k_irem hStr hE C hd hchk hst hc1 hc2 k
  | ldiv => exact k_ldiv hStr hE C hd hchk hst hc1 hc2 k
  | lrem => exact k_lrem hStr hE C hd hchk hst hc1 hc2 k
  | iaload => exact k_iaload hStr hE C hd hchk hst hc1 hc2 k
  | iastore => exact k_iastore hStr hE C hd hchk hst hc1 hc2 k
  | aaload => exact k_aaload hStr hE C hd hchk hst hc1 hc2 k
  | aastore => exact k_aastore hStr hE C hd hchk hst hc1 hc2 k
  | arraylength => exact k_arraylength hStr hE C hd hchk hst hc1 hc2 k
  | dup => exact k_dup hStr hE C hd hchk hst hc1 hc2 k
  | dup2 => exact k_dup2 hStr hE C hd hchk hst hc1 hc2 k
  | goto t => exact k_goto hStr hE C hd hchk hst hc1 hc2 k
  | ifCond c t => exact k_ifCond hStr hE C hd hchk hst hc1 hc2 k
  | if_icmp c t => exact k_if_icmp hStr hE C hd hchk hst hc1 hc2 k
  | tableswitch a b c e => exact k_tableswitch hStr hE C hd hchk hst hc1 hc2 k
  | lookupswitch a b => exact k_lookupswitch hStr hE C hd hchk hst hc1 hc2 k
  | getfield n => exact k_getfield hStr hE C hd hchk hst hc1 hc2 k
  | putfield n => exact k_putfield hStr hE C hd hchk hst hc1 hc2 k
  | saload => exact k_saload hStr hE C hd hchk hst hc1 hc2 k
  | sastore => exact k_sastore hStr hE C hd hchk hst hc1 hc2 k
  | new n => exact k_new hStr hE C hd hchk hst hc1 hc2 k
  | newarray n => exact k_newarray hStr hE C hd hchk hst hc1 hc2 k
  | anewarray n => exact k_anewarray hStr hE C hd hchk hst hc1 hc2 k
  | invokedynamic n =>
    match n, hchk, hst with
    | 0, hchk, hst => exact k_b0 hStr hE C hd hchk hst hc1 hc2 k
    | 1, hchk, hst => exact k_b1 hStr hE C hd hchk hst hc1 hc2 k
    | 2, hchk, hst => exact k_b2 hStr hE C hd hchk hst hc1 hc2 k
    | 3, hchk, hst => exact k_b3 hStr hE C hd hchk hst hc1 hc2 k
    | 4, hchk, hst => exact k_b4 hStr hE C hd hchk hst hc1 hc2 k
    | 5, hchk, hst => exact k_b5 hStr hE C hd hchk hst hc1 hc2 k
    | 6, hchk, hst => exact k_b6 hStr hE C hd hchk hst hc1 hc2 k
    | 7, hchk, hst => exact k_b7 hStr hE C hd hchk hst hc1 hc2 k
    | n + 8, hchk, hst => cases hst
  | _ => first
    | (cases hret; done)
    | (cases hcal; done)
    | (cases hst; done)
/-- what is to be done where the method returns -/
def HRet (E : EV) (mi : PInf) (t : MR) (x : CTX) (rv : Option Value) (h1 : PH) : Prop := ∀ (op : Instr) (pc : Nat) (st : List Value) (H : Heap) (locs : List Loc) (cells slots : Nat) (lsM : Array Slot), decode mi.2.1 pc = .ok (op, 1) → retV op t.2.2.2.1 st = some rv → HP E h1 H → (∀ q ∈ locs, eB E ≤ q.base) → cells + xn x = h1.1.length → slots + xt x = tot h1.1 →
  WX x H locs cells slots (F0 (xm x) pc lsM (st.map (va E)))
theorem look_all {p : Nat × Instr × Nat → Bool} : ∀ {l : List (Nat × Instr × Nat)} {pc : Nat} {q : Instr × Nat}, look l pc = some q → l.all p = true → p (pc, q) = true := by
  intro l
  induction l with
  | nil => intro pc q h _; cases h
  | cons e r ih =>
    intro pc q h ha
    rw [List.all_cons, Bool.and_eq_true] at ha
    unfold look at h
    split at h
    · rename_i he
      cases h
      rw [← he]
      exact ha.1
    · exact ih h ha.2
theorem fetch_chk {y pc : Nat} {mi : PInf} {t : MR} {op : Instr} {len : Nat} (hm : pM[y]? = some mi) (ht : pT[y]? = some t) (hf : fetch pT y pc = some (op, len)) : ∃ i, decode mi.2.1 pc = .ok (i, len) ∧ opChk mi.2.2.2.2.1 mi.2.2.2.2.2 pc len op i = true := by
  unfold fetch at hf
  rw [ht] at hf
  have h1 := look_all hf (mChk_at hm ht)
  unfold eChk at h1
  dsimp only at h1
  split at h1
  · rename_i i l hd
    simp only [Bool.and_eq_true, beq_iff_eq] at h1
    obtain ⟨rfl, h2⟩ := h1
    exact ⟨i, hd, h2⟩
  · cases h1
/-- the locals at the entry -/
theorem loc_args {E : EV} : ∀ (vs : List Value) (k : Nat) (r : List Value), (∀ v ∈ r, isEV v = true) → ∀ (j : Nat) (v : Value), ((vs.flatMap fun v => if isLV v then [v, dV] else [v]) ++ r)[j]? = some v → isEV v = false → (k + j, va E v) ∈ lv_args k (vs.map (va E)) := by
  intro vs
  induction vs with
  | nil =>
    intro k r hr j v hj hv
    rw [List.flatMap_nil, List.nil_append] at hj
    have := hr v (List.mem_of_getElem? hj)
    rw [this] at hv
    cases hv
  | cons w vs ih =>
    intro k r hr j v hj hv
    rw [List.flatMap_cons] at hj
    rw [List.map_cons]
    cases w with
    | long z =>
      show _ ∈ (k, Value.long z) :: lv_args (k + 2) (vs.map (va E))
      match j, hj with
      | 0, hj => cases hj; exact List.mem_cons_self
      | 1, hj => cases hj; cases hv
      | j + 2, hj =>
        have := ih (k + 2) r hr j v hj hv
        rw [show k + (j + 2) = k + 2 + j by omega]
        exact List.mem_cons_of_mem _ this
    | double z =>
      show _ ∈ (k, Value.double z) :: lv_args (k + 2) (vs.map (va E))
      match j, hj with
      | 0, hj => cases hj; cases hv
      | 1, hj => cases hj; cases hv
      | j + 2, hj =>
        have := ih (k + 2) r hr j v hj hv
        rw [show k + (j + 2) = k + 2 + j by omega]
        exact List.mem_cons_of_mem _ this
    | int z =>
      show _ ∈ (k, Value.int z) :: lv_args (k + 1) (vs.map (va E))
      match j, hj with
      | 0, hj => cases hj; exact List.mem_cons_self
      | j + 1, hj =>
        have := ih (k + 1) r hr j v hj hv
        rw [show k + (j + 1) = k + 1 + j by omega]
        exact List.mem_cons_of_mem _ this
    | float z =>
      show _ ∈ (k, Value.float z) :: lv_args (k + 1) (vs.map (va E))
      match j, hj with
      | 0, hj => cases hj; cases hv
      | j + 1, hj =>
        have := ih (k + 1) r hr j v hj hv
        rw [show k + (j + 1) = k + 1 + j by omega]
        exact List.mem_cons_of_mem _ this
    | ref z =>
      show _ ∈ (k, Value.ref (ad E z)) :: lv_args (k + 1) (vs.map (va E))
      match j, hj with
      | 0, hj => cases hj; exact List.mem_cons_self
      | j + 1, hj =>
        have := ih (k + 1) r hr j v hj hv
        rw [show k + (j + 1) = k + 1 + j by omega]
        exact List.mem_cons_of_mem _ this
    | null =>
      show _ ∈ (k, Value.null) :: lv_args (k + 1) (vs.map (va E))
      match j, hj with
      | 0, hj => cases hj; exact List.mem_cons_self
      | j + 1, hj =>
        have := ih (k + 1) r hr j v hj hv
        rw [show k + (j + 1) = k + 1 + j by omega]
        exact List.mem_cons_of_mem _ this
    | retAddr z =>
      show _ ∈ (k, Value.retAddr z) :: lv_args (k + 1) (vs.map (va E))
      match j, hj with
      | 0, hj => cases hj; exact List.mem_cons_self
      | j + 1, hj =>
        have := ih (k + 1) r hr j v hj hv
        rw [show k + (j + 1) = k + 1 + j by omega]
        exact List.mem_cons_of_mem _ this
end SIMT
