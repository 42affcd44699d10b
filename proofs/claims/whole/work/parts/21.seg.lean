/-! PHASE 2: runs of the pure machine, without fuel -/
section PH2
variable {L : Nat} {X : Nat → Int32}
theorem run1_mono {ih ih2 : RunT} (hi : ∀ d y pc ls st h o, ih d y pc ls st h = some o → ih2 d y pc ls st h = some o) : ∀ d y pc ls st h o, run1 pT pN pF L X ih d y pc ls st h = some o → run1 pT pN pF L X ih2 d y pc ls st h = some o := by
  intro d y pc ls st h o
  unfold run1
  cases fetch pT y pc with
  | none => intro hr; cases hr
  | some q =>
    obtain ⟨op, len⟩ := q
    dsimp only
    by_cases hir : isRet op = true
    · rw [if_pos hir, if_pos hir]; exact id
    · rw [if_neg hir, if_neg hir]
      cases callee op with
      | some z =>
        dsimp only
        cases pT[z]? with
        | none => intro hr; cases hr
        | some m =>
          dsimp only
          cases d with
          | zero => intro hr; cases hr
          | succ d =>
            dsimp only
            split
            · intro hr
              cases hcall : ih d z 0 (locE (List.take m.2.1 st).reverse m.2.2.1) [] h with
              | none => rw [hcall] at hr; cases hr
              | some w =>
                obtain ⟨v, h1⟩ := w
                rw [hcall] at hr
                rw [hi _ _ _ _ _ _ _ hcall]
                exact hi _ _ _ _ _ _ _ hr
            · intro hr; cases hr
      | none =>
        dsimp only
        cases stp pN pF L X op len pc ls st h with
        | none => intro hr; cases hr
        | some w =>
          obtain ⟨ob, b, p1, p2, ls1, st1, h1⟩ := w
          dsimp only
          split
          · exact hi _ _ _ _ _ _ _
          · intro hr; cases hr
theorem prun_up1 : ∀ (n d y pc : Nat) (ls st : List Value) (h : PH) (o : Option Value × PH), prun pT pN pF L X n d y pc ls st h = some o → prun pT pN pF L X (n + 1) d y pc ls st h = some o := by
  intro n
  induction n with
  | zero => intro d y pc ls st h o hr; rw [prun_0] at hr; cases hr
  | succ n ih =>
    intro d y pc ls st h o hr
    rw [prun_s] at hr ⊢
    exact run1_mono ih d y pc ls st h o hr
theorem prun_up {n k d y pc : Nat} {ls st : List Value} {h : PH} {o : Option Value × PH} (hr : prun pT pN pF L X n d y pc ls st h = some o) : prun pT pN pF L X (n + k) d y pc ls st h = some o := by
  induction k with
  | zero => exact hr
  | succ k ih => exact prun_up1 _ _ _ _ _ _ _ _ ih
/-- from here the pure machine comes to that answer -/
def Seg (L : Nat) (X : Nat → Int32) (d z pc : Nat) (ls st : List Value) (h : PH) (o : Option Value × PH) : Prop := ∃ n, prun pT pN pF L X n d z pc ls st h = some o
theorem seg_ret {d z pc len : Nat} {op : Instr} {m : MR} {ls st : List Value} {h : PH} {v : Option Value} (hf : fetch pT z pc = some (op, len)) (hi : isRet op = true) (hm : pT[z]? = some m) (hv : retV op m.2.2.2.1 st = some v) : Seg L X d z pc ls st h (v, h) := by
  refine ⟨1, ?_⟩
  rw [prun_s]
  unfold run1
  rw [hf]
  dsimp only
  rw [if_pos hi, hm]
  dsimp only
  rw [hv]
theorem seg_step {d z pc len p1 p2 : Nat} {op : Instr} {b : Bool} {ls st ls1 st1 : List Value} {h h1 : PH} {o : Option Value × PH} (hf : fetch pT z pc = some (op, len)) (hi : isRet op = false) (hc : callee op = none) (hst : stp pN pF L X op len pc ls st h = some (true, b, p1, p2, ls1, st1, h1)) (k : Seg L X d z (if b then p1 else p2) ls1 st1 h1 o) : Seg L X d z pc ls st h o := by
  obtain ⟨n, hn⟩ := k
  refine ⟨n + 1, ?_⟩
  rw [prun_s]
  unfold run1
  rw [hf]
  dsimp only
  rw [if_neg (by rw [hi]; decide), hc]
  dsimp only
  rw [hst]
  dsimp only
  rw [if_pos rfl]
  exact hn
theorem seg_call {d z pc len q : Nat} {op : Instr} {m : MR} {ls st : List Value} {h h1 : PH} {v : Option Value} {o : Option Value × PH} (hf : fetch pT z pc = some (op, len)) (hi : isRet op = false) (hc : callee op = some q) (hm : pT[q]? = some m)
    (hk : (decide (m.2.1 ≤ st.length) && low (st.drop m.2.1) && recvOK m.2.2.2.2 (st.take m.2.1).reverse h.1 && fitL (st.take m.2.1).reverse m.2.2.1) = true) (k1 : Seg L X d q 0 (locE (st.take m.2.1).reverse m.2.2.1) [] h (v, h1)) (k : Seg L X (d + 1) z (pc + len) ls (v.toList ++ st.drop m.2.1) h1 o) : Seg L X (d + 1) z pc ls st h o := by
  obtain ⟨n1, hn1⟩ := k1
  obtain ⟨n, hn⟩ := k
  refine ⟨(n1 + n) + 1, ?_⟩
  rw [prun_s]
  unfold run1
  rw [hf]
  dsimp only
  rw [if_neg (by rw [hi]; decide), hc]
  dsimp only
  rw [hm]
  dsimp only
  rw [if_pos hk, prun_up hn1]
  dsimp only
  rw [Nat.add_comm n1 n]
  exact prun_up hn
/-! a local may be forgotten -/
def notLong (v : Value) : Bool := match v with
  | .long _ => false
  | _ => true
/-- the second list knows no more than the first -/
def Lss (ls ls2 : List Value) : Prop := ls2.length = ls.length ∧ ∀ (i : Nat) (v : Value), ls2[i]? = some v → ls[i]? = some v ∨ (v = dV ∧ ∀ w, ls[i]? = some w → notLong w = true)
theorem Lss.refl (ls : List Value) : Lss ls ls := ⟨rfl, fun _ _ h => Or.inl h⟩
theorem Lss.get {ls ls2 : List Value} {i : Nat} {v : Value} (h : Lss ls ls2) (hv : ls2[i]? = some v) (hd : v ≠ dV) : ls[i]? = some v := by
  rcases h.2 i v hv with q | q
  · exact q
  · exact absurd q.1 hd
theorem Lss.before {ls ls2 : List Value} {i : Nat} (h : Lss ls ls2) : longBefore ls i = longBefore ls2 i := by
  cases i with
  | zero => rfl
  | succ j =>
    show (match ls[j]? with | some (.long _) => true | _ => false) = (match ls2[j]? with | some (.long _) => true | _ => false)
    cases h2 : ls2[j]? with
    | none =>
      have : ls[j]? = none := by
        rw [List.getElem?_eq_none_iff] at h2 ⊢
        rw [← h.1]
        exact h2
      rw [this]
    | some v =>
      rcases h.2 j v h2 with q | ⟨q1, q2⟩
      · rw [q]
      · subst q1
        cases h1 : ls[j]? with
        | none => rfl
        | some w =>
          have := q2 w h1
          cases w <;> first | rfl | (cases this; done)
theorem lss_st1 {ls ls2 l2 : List Value} {i : Nat} {v : Value} (h : Lss ls ls2) (hs : st1 ls2 i v = some l2) : ∃ l, st1 ls i v = some l ∧ Lss l l2 := by
  unfold st1 at hs ⊢
  rw [h.before, ← h.1]
  split at hs
  · rename_i hc
    cases hs
    rw [if_pos hc]
    refine ⟨_, rfl, by simp [h.1], fun j w hw => ?_⟩
    by_cases e : i = j
    · subst e
      have hl : i < ls2.length := by
        simp only [Bool.and_eq_true, decide_eq_true_eq] at hc
        exact hc.1
      rw [List.getElem?_set_self hl] at hw
      rw [List.getElem?_set_self (by rw [← h.1]; exact hl)]
      exact Or.inl hw
    · rw [List.getElem?_set_ne e] at hw ⊢
      exact h.2 j w hw
  · cases hs
theorem lss_st2 {ls ls2 l2 : List Value} {i : Nat} {v : Value} (h : Lss ls ls2) (hs : st2 ls2 i v = some l2) : ∃ l, st2 ls i v = some l ∧ Lss l l2 := by
  unfold st2 at hs ⊢
  rw [h.before, ← h.1]
  split at hs
  · rename_i hc
    cases hs
    rw [if_pos hc]
    have hl : i + 1 < ls2.length := by
      simp only [Bool.and_eq_true, decide_eq_true_eq] at hc
      exact hc.1
    refine ⟨_, rfl, by simp [h.1], fun j w hw => ?_⟩
    by_cases e : i + 1 = j
    · subst e
      rw [List.getElem?_set_self (by simp; exact hl)] at hw
      rw [List.getElem?_set_self (by simp; rw [← h.1]; exact hl)]
      exact Or.inl hw
    · rw [List.getElem?_set_ne e] at hw ⊢
      by_cases e2 : i = j
      · subst e2
        rw [List.getElem?_set_self (by omega)] at hw
        rw [List.getElem?_set_self (by rw [← h.1]; omega)]
        exact Or.inl hw
      · rw [List.getElem?_set_ne e2] at hw ⊢
        exact h.2 j w hw
  · cases hs
/-- an instruction that reads or writes no local -/
def noLoc (op : Instr) : Bool := match op with
  | .aload _ => false
  | .iload _ => false
  | .lload _ => false
  | .astore _ => false
  | .istore _ => false
  | .lstore _ => false
  | .iinc _ _ => false
  | _ => true
theorem stp_ls {op : Instr} {len pc : Nat} {st : List Value} {h : PH} (hop : noLoc op = true) (ls ls2 : List Value) : stp pN pF L X op len pc ls st h = (stp pN pF L X op len pc ls2 st h).map (fun r => (r.1, r.2.1, r.2.2.1, r.2.2.2.1, ls, r.2.2.2.2.2.1, r.2.2.2.2.2.2)) := by
  unfold stp
  repeat' split
  all_goals first
    | rfl
    | (cases hop; done)
theorem stp_lss {op : Instr} {len pc p1 p2 : Nat} {ls ls2 st l2 s2 : List Value} {h h2 : PH} {ob b : Bool} (hl : Lss ls ls2) (hs : stp pN pF L X op len pc ls2 st h = some (ob, b, p1, p2, l2, s2, h2)) : ∃ l, stp pN pF L X op len pc ls st h = some (ob, b, p1, p2, l, s2, h2) ∧ Lss l l2 := by
  by_cases hop : noLoc op = true
  · refine ⟨ls, ?_, ?_⟩
    · rw [stp_ls hop ls ls2, hs]; rfl
    · have e := stp_ls (L := L) (X := X) (len := len) (pc := pc) (st := st) (h := h) hop ls2 ls2
      rw [hs] at e
      have e2 := Option.some.inj e
      have e3 : l2 = ls2 := congrArg (fun r : SR => r.2.2.2.2.1) e2
      rw [e3]; exact hl
  · unfold stp at hs ⊢
    cases op with
    | aload n =>
      dsimp only at hs ⊢
      split at hs
      · rename_i hg
        rw [hl.get hg (by simp [dV])]
        cases hs
        exact ⟨_, rfl, hl⟩
      · cases hs
    | iload n =>
      dsimp only at hs ⊢
      split at hs
      · rename_i hg
        rw [hl.get hg (by simp [dV])]
        cases hs
        exact ⟨_, rfl, hl⟩
      · cases hs
    | lload n =>
      dsimp only at hs ⊢
      split at hs
      · rename_i hg
        rw [hl.get hg (by simp [dV])]
        cases hs
        exact ⟨_, rfl, hl⟩
      · cases hs
    | astore n =>
      dsimp only at hs ⊢
      split at hs
      · split at hs
        · rename_i hg
          obtain ⟨l, e1, e2⟩ := lss_st1 hl hg
          rw [e1]
          cases hs
          exact ⟨_, rfl, e2⟩
        · cases hs
      · cases hs
    | istore n =>
      dsimp only at hs ⊢
      split at hs
      · split at hs
        · rename_i hg
          obtain ⟨l, e1, e2⟩ := lss_st1 hl hg
          rw [e1]
          cases hs
          exact ⟨_, rfl, e2⟩
        · cases hs
      · cases hs
    | lstore n =>
      dsimp only at hs ⊢
      split at hs
      · split at hs
        · rename_i hg
          obtain ⟨l, e1, e2⟩ := lss_st2 hl hg
          rw [e1]
          cases hs
          exact ⟨_, rfl, e2⟩
        · cases hs
      · cases hs
    | iinc n c =>
      dsimp only at hs ⊢
      split at hs
      · rename_i hg1
        split at hs
        · rename_i hg
          obtain ⟨l, e1, e2⟩ := lss_st1 hl hg
          rw [hl.get hg1 (by simp [dV])]
          dsimp only
          rw [e1]
          cases hs
          exact ⟨_, rfl, e2⟩
        · cases hs
      · cases hs
    | _ => exact absurd rfl hop
theorem prun_lss : ∀ (n d z pc : Nat) (ls ls2 st : List Value) (h : PH) (o : Option Value × PH), Lss ls ls2 → prun pT pN pF L X n d z pc ls2 st h = some o → prun pT pN pF L X n d z pc ls st h = some o := by
  intro n
  induction n with
  | zero => intro d z pc ls ls2 st h o hl hr; rw [prun_0] at hr; cases hr
  | succ n ih =>
    intro d z pc ls ls2 st h o hl
    rw [prun_s]
    unfold run1
    cases fetch pT z pc with
    | none => intro hr; cases hr
    | some q =>
      obtain ⟨op, len⟩ := q
      dsimp only
      by_cases hir : isRet op = true
      · rw [if_pos hir, if_pos hir]; exact id
      · rw [if_neg hir, if_neg hir]
        cases callee op with
        | some z2 =>
          dsimp only
          cases pT[z2]? with
          | none => intro hr; cases hr
          | some m =>
            dsimp only
            cases d with
            | zero => intro hr; cases hr
            | succ d =>
              dsimp only
              split
              · split
                · exact ih _ _ _ _ _ _ _ _ hl
                · intro hr; cases hr
              · intro hr; cases hr
        | none =>
          dsimp only
          cases hst : stp pN pF L X op len pc ls2 st h with
          | none => intro hr; cases hr
          | some w =>
            obtain ⟨ob, b, p1, p2, l2, s2, h2⟩ := w
            obtain ⟨l, e1, e2⟩ := stp_lss hl hst
            rw [e1]
            dsimp only
            split
            · exact ih _ _ _ _ _ _ _ _ e2
            · intro hr; cases hr
theorem seg_forget {d z pc : Nat} {ls ls2 st : List Value} {h : PH} {o : Option Value × PH} (hl : Lss ls ls2) (k : Seg L X d z pc ls2 st h o) : Seg L X d z pc ls st h o := by
  obtain ⟨n, hn⟩ := k
  exact ⟨n, prun_lss _ _ _ _ _ _ _ _ _ hl hn⟩
end PH2
