/-! THE SIMULATION, second half -/
section SIMU
variable {E : EV} {SOK : State → Prop}
/-- the simulation for runs of n steps -/
def SimN (E : EV) (SOK : State → Prop) (n : Nat) : Prop := ∀ (d y pc : Nat) (ls st : List Value) (h : PH) (rv : Option Value) (h1 : PH), prun pT pN pF (eL E) (eX E) n d y pc ls st h = some (rv, h1) → ∀ (mi : PInf) (t : MR), pM[y]? = some mi → pT[y]? = some t → ∀ x : CTX, Ctx E SOK mi x d →
  h1.1.length ≤ xn x + (xR x).cells → tot h1.1 ≤ xt x + (xR x).slots → HRet E mi t x rv h1 → J E mi x pc ls st h
theorem locE_len {vs : List Value} {n : Nat} (h : (vs.flatMap fun v => if isLV v then [v, dV] else [v]).length ≤ n) : (locE vs n).length = n := by
  unfold locE
  rw [List.length_append, List.length_replicate]
  omega
theorem sl_len {E : EV} : ∀ vs : List Value, (lg_sl (vs.map (va E))).length = (vs.flatMap fun v => if isLV v then [v, dV] else [v]).length := by
  intro vs
  induction vs with
  | nil => rfl
  | cons v vs ih =>
    unfold lg_sl at ih ⊢
    rw [List.map_cons, List.flatMap_cons, List.flatMap_cons, List.length_append, List.length_append, ih]
    cases v <;> rfl
theorem kept_of {n d z : Nat} {m : PInf} {t : MR} {vs : List Value} {h h1 : PH} {rv : Option Value} (hS : SimN E SOK n) (hz : z < 331) (hm : pM[z]? = some m) (ht : pT[z]? = some t) (hfit : (vs.flatMap fun v => if isLV v then [v, dV] else [v]).length ≤ t.2.2.1)
    (hrun : prun pT pN pF (eL E) (eX E) n d z 0 (locE vs t.2.2.1) [] h = some (rv, h1)) : Kept E SOK m d vs h rv h1 := by
  intro l
  obtain ⟨q, hq, hF⟩ := mF_at hz hm ht
  obtain ⟨w1, w2, w3, w4, w5, w6, w7, w8⟩ := mt_static hF
  obtain ⟨mo1, mo2⟩ := prun_mono _ _ _ _ _ _ _ _ _ hrun
  refine va_MetF (cc := m.2.1) (maxL := m.2.2.1) (ret := m.2.2.2.1) w3 rfl ?_
  intro p e s mm args below meth c s₁ B hml hP
  obtain ⟨rfl, hHP, hTK, hSOK⟩ := hP
  have hlocks := B.notSynchronized
  have hr := B.returns
  have hts := atoms_spec (ws := wsM m) B.pre
  have hown : s.vm.findClass m.1.cls = some mm.cls := findClass_of_methodNamed B.named
  have hname : meth.name = m.1.name := (name_of_methodNamed B.named B.method).1
  have hJ := hS _ _ _ _ _ _ _ _ hrun m t hm ht (p, l, e, (headSpec (wsM m) (rmD d (h1.1.length - h.1.length) (tot h1.1 - tot h.1))).room, s, mm, (vs.map (va E)).toArray, below, meth, c, MQ below (QcD E rv h1) (vs.map (va E)).toArray s (h1.1.length - h.1.length) (tot h1.1 - tot h.1) (fun q => eB E ≤ q), h.1.length, tot h.1)
    ⟨B.exec, B.bytes, hml, by rw [← w7]; exact hown, fun w hw => hts w (List.mem_cons_of_mem _ hw), hTK, hSOK, fun hc => by rw [w8] at hc; exact hname.trans (beq_iff_eq.mp hc), hHP.2.1, Nat.le_refl _, Nat.le_refl _⟩
    (by show _ ≤ h.1.length + (h1.1.length - h.1.length); omega) (by show _ ≤ tot h.1 + (tot h1.1 - tot h.1); omega) ?_
  · have hlen : (lg_sl (vs.map (va E))).length ≤ m.2.2.1 := by rw [sl_len, ← w4]; exact hfit
    have hl := lv_entry (vs.map (va E)) hlen
    rw [lg_entry_eq]
    generalize (lg_sl (vs.map (va E)) ++ List.replicate (m.2.2.1 - (lg_sl (vs.map (va E))).length) Slot.unset).toArray = lsM at hl ⊢
    refine hJ s.heap [] 0 0 lsM hHP (fun q hq => by cases hq) (lv_mono hl (fun q hq => ?_)) ?_ ?_ ?_ (Nat.zero_le _) (Nat.zero_le _)
    · obtain ⟨v, h1, h2, h3⟩ := mem_locL.mp hq
      have := loc_args (E := E) vs 0 _ (fun v hv => by rw [List.mem_replicate] at hv; rw [hv.2]; rfl) q.1 v h1 h2
      rw [Nat.zero_add, ← h3] at this
      exact this
    · rw [locE_len hfit]; exact w4
    · show 0 + h.1.length = _; omega
    · show 0 + tot h.1 = _; omega
  · intro op pc st H locs cells slots lsM hdec hrt hH1 hl hc hs
    have hcells : cells = h1.1.length - h.1.length := by
      have : cells + h.1.length = h1.1.length := hc
      omega
    have hslots : slots = tot h1.1 - tot h.1 := by
      have : slots + tot h.1 = tot h1.1 := hs
      omega
    subst hcells
    subst hslots
    unfold retV at hrt
    split at hrt
    · -- return
      split at hrt
      · split at hrt
        · rename_i hrk
          cases hrt
          have hrn : m.2.2.2.1 = none := by
            unfold retOK at w6
            rw [hrk] at w6
            split at w6 <;> first | assumption | (cases w6; done)
          exact W.vret B.exec B.bytes (hr.trans hrn) (fun t ht hW => ⟨rfl, by rw [ht]; exact hH1⟩) hl hdec
        · cases hrt
      · cases hrt
    · -- ireturn
      split at hrt
      · split at hrt
        · rename_i hrk
          cases hrt
          have hrn : m.2.2.2.1 = some .int := by
            unfold retOK at w6
            rw [hrk] at w6
            split at w6 <;> first | assumption | (cases w6; done)
          exact W.iret B.exec B.bytes (hr.trans hrn) (fun t ht hW => ⟨rfl, by rw [ht]; exact hH1⟩) hl hdec
        · split at hrt
          · rename_i a hrk1 hrk
            split at hrt
            · rename_i hv
              cases hrt
              have hrn : m.2.2.2.1 = some .boolean := by
                unfold retOK at w6
                rw [hrk] at w6
                split at w6 <;> first | assumption | (cases w6; done)
              have hn : narrow .boolean (.int a) = .int a := by
                simp only [Bool.or_eq_true, decide_eq_true_eq] at hv
                rcases hv with rfl | rfl <;> rfl
              exact W.zret B.exec B.bytes (hr.trans hrn) hn (fun t ht hW => ⟨rfl, by rw [ht]; exact hH1⟩) hl hdec
            · cases hrt
          · cases hrt
      · cases hrt
    · -- lreturn
      split at hrt
      · split at hrt
        · rename_i hrk
          cases hrt
          have hrn : m.2.2.2.1 = some .long := by
            unfold retOK at w6
            rw [hrk] at w6
            split at w6 <;> first | assumption | (cases w6; done)
          exact W.lret B.exec B.bytes (hr.trans hrn) (fun t ht hW => ⟨rfl, by rw [ht]; exact hH1⟩) hl hdec
        · cases hrt
      · cases hrt
    · -- areturn
      split at hrt
      · split at hrt
        · rename_i hrk
          cases hrt
          have hrn : ∃ C, m.2.2.2.1 = some (.object C) := by
            unfold retOK at w6
            rw [hrk] at w6
            split at w6 <;> first | exact ⟨_, by assumption⟩ | (cases w6; done)
          obtain ⟨Cn, hrn⟩ := hrn
          exact W.aret B.exec B.bytes (hr.trans hrn) (Or.inl ⟨Cn, rfl⟩) (Or.inr ⟨_, rfl⟩) (fun t ht hW => ⟨rfl, by rw [ht]; exact hH1⟩) hl hdec
        · cases hrt
      · cases hrt
    · cases hrt
theorem pT_lt {z : Nat} {t : MR} (h : pT[z]? = some t) : z < 332 := by
  have e : pT.length = 332 := by decide +kernel
  have := (List.getElem?_eq_some_iff.mp h).1
  omega
theorem pM_at {z : Nat} (h : z < 332) : ∃ m, pM[z]? = some m := by
  have e : pM.length = 332 := by decide +kernel
  exact ⟨_, List.getElem?_eq_getElem (by omega)⟩
/-- nobody calls the law -/
theorem noLaw : pML.all (fun l => l.all (fun e => decide (e.2.1 < 331))) = true := by decide +kernel
theorem hasM_lt {o i n sp : Nat} (h : hasM o i n sp = true) : n < 331 := by
  obtain ⟨xs, kd, pl, e1, e2, -⟩ := hasM_spec h
  have := List.all_eq_true.mp (List.all_eq_true.mp noLaw xs (List.mem_of_getElem? e1)) _ e2
  simpa using this
theorem sim (hSO : SOKok SOK) (hStr : StrRows E SOK) (hE : EOK E) : ∀ n : Nat, SimN E SOK n := by
  intro n
  induction n with
  | zero => intro d y pc ls st h rv h1 hr; rw [prun_0] at hr; cases hr
  | succ n ih =>
    intro d y pc ls st h rv h1 hr mi t hm ht x C hc1 hc2 hret
    rw [prun_s] at hr
    unfold run1 at hr
    split at hr
    · cases hr
    · rename_i op len hf
      obtain ⟨i, hd, hchk⟩ := fetch_chk hm ht hf
      split at hr
      · -- a return
        rename_i hir
        rw [ht] at hr
        dsimp only at hr
        split at hr
        · rename_i v hv
          cases hr
          have hp : plainOp op = true ∧ op = i ∧ len = 1 := by
            unfold opChk at hchk
            cases op <;> first
              | (cases hir; done)
              | (simp only [Bool.and_eq_true, beq_iff_eq] at hchk
                 exact ⟨hchk.1.1, beq_plain hchk.1.1 hchk.1.2, hchk.2⟩)
          obtain ⟨-, rfl, rfl⟩ := hp
          intro H locs cells slots lsM g1 g2 g3 g4 g5 g6 g7 g8
          exact hret op pc st H locs cells slots lsM hd hv g1 g2 g5 g6
        · cases hr
      · rename_i hir
        split at hr
        · -- a call
          rename_i z hz
          split at hr
          · rename_i tz htz
            split at hr
            · cases hr
            · rename_i d0 d1
              split at hr
              · rename_i hcond
                simp only [Bool.and_eq_true, decide_eq_true_eq] at hcond
                obtain ⟨⟨⟨hk, hlow⟩, hrv⟩, hfitb⟩ := hcond
                split at hr
                · rename_i v h2 hcall
                  obtain ⟨mz, hmz⟩ := pM_at (pT_lt htz)
                  have hop : (∃ j, op = .invokevirtual z ∧ i = .invokevirtual j ∧ hasM mi.2.2.2.2.1 j z 0 = true) ∨ (∃ j, op = .invokestatic z ∧ i = .invokestatic j ∧ hasM mi.2.2.2.2.1 j z 1 = true) ∨ (∃ j, op = .invokespecial z ∧ i = .invokespecial j ∧ hasM mi.2.2.2.2.1 j z 3 = true) := by
                    unfold callee at hz
                    unfold opChk at hchk
                    split at hz
                    · cases hz
                      dsimp only at hchk
                      split at hchk
                      · simp only [Bool.and_eq_true] at hchk
                        exact Or.inl ⟨_, rfl, rfl, hchk.1⟩
                      · cases hchk
                    · cases hz
                      dsimp only at hchk
                      split at hchk
                      · simp only [Bool.and_eq_true] at hchk
                        exact Or.inr (Or.inr ⟨_, rfl, rfl, hchk.1⟩)
                      · cases hchk
                    · cases hz
                      dsimp only at hchk
                      split at hchk
                      · simp only [Bool.and_eq_true] at hchk
                        exact Or.inr (Or.inl ⟨_, rfl, rfl, hchk.1⟩)
                      · cases hchk
                    · cases hz
                  have hl3 : len = 3 := by
                    unfold opChk at hchk
                    rcases hop with ⟨j, rfl, rfl, -⟩ | ⟨j, rfl, rfl, -⟩ | ⟨j, rfl, rfl, -⟩ <;>
                      (dsimp only at hchk; simp only [Bool.and_eq_true, beq_iff_eq] at hchk; exact hchk.2)
                  subst hl3
                  have hz325 : z < 331 := by
                    rcases hop with ⟨j, -, -, h⟩ | ⟨j, -, -, h⟩ | ⟨j, -, -, h⟩ <;> exact hasM_lt h
                  obtain ⟨mo1, mo2⟩ := prun_mono _ _ _ _ _ _ _ _ _ hcall
                  obtain ⟨mo3, mo4⟩ := prun_mono _ _ _ _ _ _ _ _ _ hr
                  have hfit : ((List.take tz.2.1 st).reverse.flatMap fun v => if isLV v then [v, dV] else [v]).length ≤ tz.2.2.1 := by simpa [fitL] using hfitb
                  have hK := kept_of ih hz325 hmz htz hfit hcall
                  exact s_call (op := op) hSO C hd hz325 hmz htz hop (by rw [List.length_reverse, List.length_take]; omega) (by rw [List.reverse_reverse, List.take_append_drop]) (by simpa [low] using hlow) hrv hK mo1 mo2 (by omega) (by omega) (ih _ _ _ _ _ _ _ _ hr mi t hm ht x C hc1 hc2 hret)
                · cases hr
              · cases hr
          · cases hr
        · -- a step
          rename_i hcal
          split at hr
          · rename_i ob b pT1 pF1 ls1 st1 h2 hst
            split at hr
            · rename_i hob
              obtain ⟨mo1, mo2⟩ := prun_mono _ _ _ _ _ _ _ _ _ hr
              rw [hob] at hst
              exact k_all hStr hE C hd hchk (by simpa using hir) hcal hst (by omega) (by omega) (ih _ _ _ _ _ _ _ _ hr mi t hm ht x C hc1 hc2 hret)
            · cases hr
          · cases hr
end SIMU
