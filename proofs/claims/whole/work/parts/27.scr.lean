/-! only the law reads the script -/
section PH8
def noScr (op : Instr) : Bool := match op with
  | .saload => false
  | .sastore => false
  | _ => true
def calOK (op : Instr) : Bool := match callee op with
  | some z => decide (z < 331)
  | none => true
def scrP (m : MR) : Bool := m.1.all (fun e => noScr e.2.1 && calOK e.2.1)
theorem scr_all : (pT.take 331).all scrP = true := by decide +kernel
theorem stp_scr {L1 L2 : Nat} {X1 X2 : Nat → Int32} {op : Instr} {len pc : Nat} {ls st : List Value} {h : PH} (hop : noScr op = true) : stp pN pF L1 X1 op len pc ls st h = stp pN pF L2 X2 op len pc ls st h := by
  unfold stp
  repeat' split
  all_goals first
    | rfl
    | (cases hop; done)
theorem fetch_scr {z pc len : Nat} {op : Instr} (hz : z < 331) (hf : fetch pT z pc = some (op, len)) : noScr op = true ∧ calOK op = true := by
  unfold fetch at hf
  cases hm : pT[z]? with
  | none => rw [hm] at hf; cases hf
  | some m =>
    rw [hm] at hf
    dsimp only at hf
    have h1 : (pT.take 331)[z]? = some m := by rw [List.getElem?_take_of_lt hz]; exact hm
    have ha := scr_all
    generalize pT.take 331 = l at h1 ha
    have h2 : scrP m = true := List.all_eq_true.mp ha m (List.mem_of_getElem? h1)
    unfold scrP at h2
    have h3 := look_all hf h2
    simp only [Bool.and_eq_true] at h3
    exact h3
theorem prun_scr {L1 L2 : Nat} {X1 X2 : Nat → Int32} : ∀ (n d z pc : Nat) (ls st : List Value) (h : PH), z < 331 → prun pT pN pF L1 X1 n d z pc ls st h = prun pT pN pF L2 X2 n d z pc ls st h := by
  intro n
  induction n with
  | zero => intro d z pc ls st h _; rw [prun_0, prun_0]
  | succ n ih =>
    intro d z pc ls st h hz
    rw [prun_s, prun_s]
    unfold run1
    cases hf : fetch pT z pc with
    | none => rfl
    | some q =>
      obtain ⟨op, len⟩ := q
      obtain ⟨ho, hcal⟩ := fetch_scr hz hf
      dsimp only
      by_cases hir : isRet op = true
      · rw [if_pos hir, if_pos hir]
      · rw [if_neg hir, if_neg hir]
        unfold calOK at hcal
        cases hc : callee op with
        | some z2 =>
          rw [hc] at hcal
          have hz2 : z2 < 331 := of_decide_eq_true hcal
          dsimp only
          cases pT[z2]? with
          | none => rfl
          | some m =>
            dsimp only
            cases d with
            | zero => rfl
            | succ d =>
              dsimp only
              rw [ih d z2 0 (locE (List.take m.2.1 st).reverse m.2.2.1) [] h hz2]
              cases prun pT pN pF L2 X2 n d z2 0 (locE (List.take m.2.1 st).reverse m.2.2.1) [] h with
              | none => rfl
              | some w =>
                obtain ⟨v, h1⟩ := w
                dsimp only
                rw [ih (d + 1) z (pc + len) ls (v.toList ++ List.drop m.2.1 st) h1 hz]
        | none =>
          dsimp only
          rw [stp_scr (L1 := L1) (L2 := L2) (X1 := X1) (X2 := X2) ho]
          cases stp pN pF L2 X2 op len pc ls st h with
          | none => rfl
          | some w =>
            obtain ⟨ob, b, p1, p2, ls1, st1, h1⟩ := w
            dsimp only
            rw [ih d z (if b = true then p1 else p2) ls1 st1 h1 hz]
/-- the constructors, whatever the script -/
theorem segA {L : Nat} {X : Nat → Int32} : Seg L X 999 0 0 (locE [.ref 0] 2) [] (newH ([], fun _ _ => none, fun _ _ => 0) 13 12) (none, endH runA) := by
  refine ⟨4000, ?_⟩
  rw [prun_scr (L2 := 0) (X2 := fun _ => 0) _ _ _ _ _ _ _ (by decide)]
  exact done_eq runA_ok
theorem segR {L : Nat} {X : Nat → Int32} : Seg L X 999 191 0 (locE [.ref 207] 1) [] (newH (endH runA) 14 78) (none, endH runR) := by
  refine ⟨4000, ?_⟩
  rw [prun_scr (L2 := 0) (X2 := fun _ => 0) _ _ _ _ _ _ _ (by decide)]
  exact done_eq runR_ok
end PH8
