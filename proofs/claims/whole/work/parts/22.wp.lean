/-! what is wanted of a method's code, up to its cut places -/
section PH3
variable {L : Nat} {X : Nat → Int32}
def maskL : List Bool → List Value → List Value
  | true :: m, v :: r => v :: maskL m r
  | false :: m, _ :: r => dV :: maskL m r
  | [], r => r
  | _, [] => []
def maskOK : List Bool → List Value → Bool
  | true :: m, _ :: r => maskOK m r
  | false :: m, v :: r => notLong v && maskOK m r
  | _, _ => true
theorem mask_lss : ∀ (m : List Bool) (ls : List Value), maskOK m ls = true → Lss ls (maskL m ls) := by
  intro m
  induction m with
  | nil => intro ls _; cases ls <;> exact Lss.refl _
  | cons b m ih =>
    intro ls hm
    cases ls with
    | nil => cases b <;> exact Lss.refl _
    | cons v r =>
      cases b with
      | true =>
        have h := ih r hm
        refine ⟨by show (maskL m r).length + 1 = r.length + 1; rw [h.1], fun i w hw => ?_⟩
        cases i with
        | zero => exact Or.inl hw
        | succ i => exact h.2 i w hw
      | false =>
        have hm2 : (notLong v && maskOK m r) = true := hm
        rw [Bool.and_eq_true] at hm2
        have h := ih r hm2.2
        refine ⟨by show (maskL m r).length + 1 = r.length + 1; rw [h.1], fun i w hw => ?_⟩
        cases i with
        | zero =>
          refine Or.inr ⟨(Option.some.inj hw).symm, fun u hu => ?_⟩
          rw [← Option.some.inj hu]
          exact hm2.1
        | succ i => exact h.2 i w hw
def cutAt : List (Nat × List Bool) → Nat → Option (List Bool)
  | [], _ => none
  | e :: r, pc => if e.1 = pc then some e.2 else cutAt r pc
/-- an instruction with a condition of its own -/
def hasOb (op : Instr) : Bool := match op with
  | .idiv => true
  | .irem => true
  | .ldiv => true
  | .lrem => true
  | .getfield _ => true
  | .putfield _ => true
  | .iaload => true
  | .iastore => true
  | .aaload => true
  | .aastore => true
  | .arraylength => true
  | .saload => true
  | .sastore => true
  | .new _ => true
  | .newarray _ => true
  | .anewarray _ => true
  | .invokedynamic _ => true
  | _ => false
def isCnd (op : Instr) : Bool := match op with
  | .ifCond _ _ => true
  | .if_icmp _ _ => true
  | _ => false
def isSw (op : Instr) : Bool := match op with
  | .tableswitch _ _ _ _ => true
  | .lookupswitch _ _ => true
  | _ => false
theorem stp_ob {op : Instr} {len pc p1 p2 : Nat} {ls st l2 s2 : List Value} {h h2 : PH} {ob b : Bool} (ho : hasOb op = false) (hs : stp pN pF L X op len pc ls st h = some (ob, b, p1, p2, l2, s2, h2)) : ob = true := by
  unfold stp at hs
  repeat' split at hs
  all_goals first
    | (cases hs; done)
    | (cases ho; done)
    | (simp only [go, goIf] at hs; cases hs; rfl)
    | (cases hs; rfl)
theorem stp_b {op : Instr} {len pc p1 p2 : Nat} {ls st l2 s2 : List Value} {h h2 : PH} {ob b : Bool} (ho : isCnd op = false) (hs : stp pN pF L X op len pc ls st h = some (ob, b, p1, p2, l2, s2, h2)) : b = true := by
  unfold stp at hs
  repeat' split at hs
  all_goals first
    | (cases hs; done)
    | (cases ho; done)
    | (simp only [go, goIf] at hs; cases hs; rfl)
/-- a switch, key by key -/
def lkP (P : Nat → Prop) (d : Int) (x : Int32) : List (Int × Int) → Prop
  | [] => P d.toNat
  | e :: r => (x = i32 e.1 → P e.2.toNat) ∧ (¬ x = i32 e.1 → lkP P d x r)
theorem lkP_at {P : Nat → Prop} {d : Int} {x : Int32} : ∀ {l : List (Int × Int)}, lkP P d x l → P (lkAt d l x) := by
  intro l
  induction l with
  | nil => exact id
  | cons e r ih =>
    intro h
    obtain ⟨k, t⟩ := e
    unfold lkAt
    split
    · rename_i hc; exact h.1 hc
    · rename_i hc; exact ih (h.2 hc)
def idxL : Int → List Int → List (Int × Int)
  | _, [] => []
  | lo, t :: r => (lo, t) :: idxL (lo + 1) r
def idxOK (l : List (Int × Int)) : Bool := l.all (fun e => decide ((i32 e.1).toInt = e.1))
theorem sw_low {d lo : Int} {ts : List Int} {x : Int32} (h : x.toInt < lo) : swAt d lo ts x = d.toNat := by
  unfold swAt
  split
  · rw [if_pos h]
  · rfl
theorem sw_lk (d : Int) (x : Int32) : ∀ (ts : List Int) (lo : Int), idxOK (idxL lo ts) = true → swAt d lo ts x = lkAt d (idxL lo ts) x := by
  intro ts
  induction ts with
  | nil => intro lo _; rfl
  | cons t r ih =>
    intro lo hok
    have h2 : decide ((i32 lo).toInt = lo) = true ∧ idxOK (idxL (lo + 1) r) = true := by
      have h3 : (decide ((i32 lo).toInt = lo) && idxOK (idxL (lo + 1) r)) = true := hok
      rw [Bool.and_eq_true] at h3
      exact h3
    have h4 : (i32 lo).toInt = lo := of_decide_eq_true h2.1
    show _ = (if x = i32 lo then t.toNat else lkAt d (idxL (lo + 1) r) x)
    by_cases hx : x = i32 lo
    · rw [if_pos hx]
      have e : x.toInt = lo := by rw [hx]; exact h4
      unfold swAt
      rw [e, Int.sub_self]
      show (if lo < lo then d.toNat else t.toNat) = t.toNat
      rw [if_neg (by omega)]
    · rw [if_neg hx, ← ih (lo + 1) h2.2]
      have hne : x.toInt ≠ lo := fun e => hx (Int32.toInt_inj.mp (e.trans h4.symm))
      by_cases hl : x.toInt < lo
      · rw [sw_low hl, sw_low (by omega)]
      · unfold swAt
        have e : (x.toInt - lo).toNat = (x.toInt - (lo + 1)).toNat + 1 := by omega
        rw [e, List.getElem?_cons_succ]
        split
        · rw [if_neg hl, if_neg (by omega)]
        · rfl
/-- where a call's object is looked at -/
def recvP (rc : Nat) (vs : List Value) (sh : List (Nat × Nat)) (P : Prop) : Prop := if rc = 99 then P else match vs with
  | .ref a :: _ => if rc = 98 then P else (isObj sh a rc = true ∧ P)
  | _ => False
theorem recvP_ok {rc : Nat} {vs : List Value} {sh : List (Nat × Nat)} {P : Prop} (h : recvP rc vs sh P) : recvOK rc vs sh = true ∧ P := by
  unfold recvP at h
  unfold recvOK
  split at h
  · rename_i hc; rw [if_pos hc]; exact ⟨rfl, h⟩
  · rename_i hc
    rw [if_neg hc]
    split at h
    · dsimp only
      split at h
      · rename_i h2; rw [if_pos h2]; exact ⟨rfl, h⟩
      · rename_i h2; rw [if_neg h2]; exact h
    · cases h
/-- on to a place: a cut, or through -/
def nxtP (L : Nat) (X : Nat → Int32) (d z : Nat) (cuts : List (Nat × List Bool)) (o : Option Value × PH) (k : Nat → List Value → List Value → PH → Prop) (pc : Nat) (ls st : List Value) (h : PH) : Prop := match cutAt cuts pc with
  | some m => if maskOK m ls = true then Seg L X (d + 1) z pc (maskL m ls) st h o else False
  | none => k pc ls st h
def wp (L : Nat) (X : Nat → Int32) (d z rk : Nat) (T : List (Nat × Instr × Nat)) (cuts : List (Nat × List Bool)) (o : Option Value × PH) : Nat → Nat → List Value → List Value → PH → Prop
  | 0 => fun _ _ _ _ => False
  | k + 1 => fun pc ls st h => match look T pc with
    | none => False
    | some (op, len) => if isRet op = true then (match retV op rk st with
        | some v => o = (v, h)
        | none => False)
      else match callee op with
      | some q => match pT[q]? with
        | none => False
        | some m => if (decide (m.2.1 ≤ st.length) && low (st.drop m.2.1) && fitL (st.take m.2.1).reverse m.2.2.1) = true then recvP m.2.2.2.2 (st.take m.2.1).reverse h.1 (∃ (v : Option Value) (h1 : PH), Seg L X d q 0 (locE (st.take m.2.1).reverse m.2.2.1) [] h (v, h1) ∧ nxtP L X d z cuts o (wp L X d z rk T cuts o k) (pc + len) ls (v.toList ++ st.drop m.2.1) h1) else False
      | none => match op, st with
        | .tableswitch d0 lo _ ts, .int x :: st => if idxOK (idxL lo ts.toList) = true then lkP (fun pc => nxtP L X d z cuts o (wp L X d z rk T cuts o k) pc ls st h) d0 x (idxL lo ts.toList) else False
        | .lookupswitch d0 ps, .int x :: st => lkP (fun pc => nxtP L X d z cuts o (wp L X d z rk T cuts o k) pc ls st h) d0 x ps.toList
        | op, st => match stp pN pF L X op len pc ls st h with
          | none => False
          | some (ob, b, p1, p2, ls1, st1, h1) => if hasOb op = true then ob = true ∧ nxtP L X d z cuts o (wp L X d z rk T cuts o k) p1 ls1 st1 h1
            else if isCnd op = true then (b = true → nxtP L X d z cuts o (wp L X d z rk T cuts o k) p1 ls1 st1 h1) ∧ (b = false → nxtP L X d z cuts o (wp L X d z rk T cuts o k) p2 ls1 st1 h1)
            else nxtP L X d z cuts o (wp L X d z rk T cuts o k) p1 ls1 st1 h1
end PH3
