/-! the law's entry: what is left is about functions on the ints -/
section ENT
variable {L : Nat} {X : Nat → Int32}
/-- what is left: the loop of the law, from the ints that the constructors leave, comes to 1 -/
def LawOK : Prop := ∀ (L : Nat) (X : Nat → Int32), L ≤ 3072 → ∃ I1, K_L_law_18 L X 0 I0 = some (1, I1)
theorem fet {pc len : Nat} {op : Instr} (h : look q_L_law pc = some (op, len)) : fetch pT 331 pc = some (op, len) := by
  unfold fetch
  rw [z_L_law]
  exact h
theorem ph_eta (h : PH) : h = (h.1, h.2.1, h.2.2) := by
  obtain ⟨a, b, c⟩ := h
  rfl
theorem h0_HH0 : h0 = HH I0 := by
  refine (ph_eta h0).trans ?_
  rw [sh0]
  simp only [HH, rf0, I0]
theorem h0_HH : endH runR = HH I0 := by
  have e := h0_HH0
  unfold h0 at e
  exact e
set_option maxRecDepth 100000 in
theorem z_A_init : pT[0]? = some (q_A_init, 1, 2, 0, 98) := rfl
set_option maxRecDepth 100000 in
theorem z_R_init : pT[191]? = some (q_R_init, 1, 1, 0, 98) := rfl
theorem stp_new {c n len pc : Nat} {ls st : List Value} {h : PH} (hn : pN[c]? = some n) (hl : h.1.length < 100000) : stp pN pF L X (.new c) len pc ls st h = some (true, true, pc + len, pc + len, ls, .ref h.1.length :: st, newH h (c + 2) n) := by
  show (match pN[c]? with
    | some n => goIf (decide (h.1.length < 100000)) (pc + len) ls (.ref h.1.length :: st) (h.1 ++ [(c + 2, n)], bup h.2.1 h.1.length (fun _ => none), bup h.2.2 h.1.length (fun _ => 0))
    | none => none) = _
  rw [hn, decide_eq_true hl]
  rfl
theorem law_entry {o : Option Value × PH} (k : At L X 1000 331 18 [(9997, .ref 1000000), (111, .ref 0), (112, .ref 207), (0, .int 0)] [] I0 o) : Seg L X 1000 331 0 [.ref 1000000, dV, dV, dV] [] ([], fun _ _ => none, fun _ _ => 0) o := by
  refine seg_step (fet (pc := 0) (op := .new 11) (len := 3) (by decide +kernel)) rfl rfl (stp_new (n := 12) rfl (by decide)) ?_
  rw [if_pos rfl]
  refine seg_step (fet (pc := 0 + 3) (op := .dup) (len := 1) (by decide +kernel)) rfl rfl (b := true) rfl ?_
  rw [if_pos rfl]
  refine seg_call (fet (pc := 0 + 3 + 1) (op := .invokespecial 0) (len := 3) (by decide +kernel)) rfl rfl z_A_init rfl segA ?_
  refine seg_step (fet (pc := 0 + 3 + 1 + 3) (op := .astore 1) (len := 1) (by decide +kernel)) rfl rfl (b := true) rfl ?_
  rw [if_pos rfl]
  refine seg_step (fet (pc := 0 + 3 + 1 + 3 + 1) (op := .new 12) (len := 3) (by decide +kernel)) rfl rfl (stp_new (n := 78) rfl (by rw [runA_sh]; decide)) ?_
  rw [if_pos rfl, runA_sh]
  refine seg_step (fet (pc := 0 + 3 + 1 + 3 + 1 + 3) (op := .dup) (len := 1) (by decide +kernel)) rfl rfl (b := true) rfl ?_
  rw [if_pos rfl]
  refine seg_call (fet (pc := 0 + 3 + 1 + 3 + 1 + 3 + 1) (op := .invokespecial 191) (len := 3) (by decide +kernel)) rfl rfl z_R_init rfl segR ?_
  rw [h0_HH]
  refine seg_step (fet (pc := 0 + 3 + 1 + 3 + 1 + 3 + 1 + 3) (op := .astore 2) (len := 1) (by decide +kernel)) rfl rfl (b := true) rfl ?_
  rw [if_pos rfl]
  refine seg_step (fet (pc := 0 + 3 + 1 + 3 + 1 + 3 + 1 + 3 + 1) (op := .iconst 0) (len := 1) (by decide +kernel)) rfl rfl (b := true) rfl ?_
  rw [if_pos rfl]
  refine seg_step (fet (pc := 0 + 3 + 1 + 3 + 1 + 3 + 1 + 3 + 1 + 1) (op := .istore 3) (len := 1) (by decide +kernel)) rfl rfl (b := true) rfl ?_
  rw [if_pos rfl]
  exact k
theorem tot_sh : tot shT = 22665 := by decide +kernel
theorem len_sh : shT.length = 254 := by decide +kernel
theorem pure_of (hL : LawOK) : PureClaim := by
  intro L X hl
  obtain ⟨I1, h⟩ := hL L X hl
  have k := s_L_law_18 (d := 999) L X (allS_L_law (by decide)) 0 (o := (some (.int 1), HH I1)) (Q := fun v I => v = 1 ∧ I = I1) (fun v I q => by obtain ⟨rfl, rfl⟩ := q; rfl) I0 1 I1 h ⟨rfl, rfl⟩
  obtain ⟨n, hn⟩ := law_entry k
  refine ⟨n, HH I1, hn, ?_, ?_⟩
  · rw [hh1, len_sh]; decide
  · rw [hh1, tot_sh]; decide
end ENT
