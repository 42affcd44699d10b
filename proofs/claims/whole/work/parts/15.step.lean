/-! one step of the pure machine is a step of the machine -/
section SIMS
variable {E : EV} {SOK : State → Prop} {mi : PInf} {x : CTX} {d pc len pT pF' : Nat} {i : Instr} {ls st ls1 st1 : List Value} {h h1 : PH} {b : Bool}
theorem beq_plain {op i : Instr} (hp : plainOp op = true) (h : (op == i) = true) : op = i := by
  cases op <;> first | (cases hp; done) | (cases i <;> first | rfl | (have h' : false = true := h; cases h'))
theorem beq_cond {a b : ClassFile.Cond} (h : (a == b) = true) : a = b := by
  cases a <;> cases b <;> first | rfl | (have h' : false = true := h; cases h')
theorem tgt_of {pc : Nat} {off t : Int} (h : tgt pc off t = true) : (pc : Int) + off = (t.toNat : Int) := by
  simp only [tgt, Bool.and_eq_true, decide_eq_true_eq] at h
  omega
/-- the string's rows, as they are wanted -/
def StrRows (E : EV) (SOK : State → Prop) : Prop := ∀ (mi : PInf) (x : CTX) (d pc : Nat) (ls st : List Value) (h : PH), Ctx E SOK mi x d →
  (decode mi.2.1 pc = .ok (.ldc 102, 2) → mi.2.2.2.2.1 = 5 → J E mi x (pc + 2) ls (.ref 1000001 :: st) h → J E mi x pc ls st h) ∧
  (∀ j, decode mi.2.1 pc = .ok (.invokevirtual j, 3) → has3 pBL mi.2.2.2.2.1 j 5 = true → (st.map catV).sum ≤ 8 → J E mi x (pc + 3) ls (.int (Int32.ofNat kwB.length) :: st) h → J E mi x pc ls (.ref 1000001 :: st) h) ∧
  (∀ (j : Nat) (n : Int32), decode mi.2.1 pc = .ok (.invokevirtual j, 3) → has3 pBL mi.2.2.2.2.1 j 6 = true → (st.map catV).sum ≤ 8 → inR n kwB.length = true → J E mi x (pc + 3) ls (.int (kwC n.toNatClampNeg) :: st) h → J E mi x pc ls (.int n :: .ref 1000001 :: st) h)
/-- what is known of the script's cell -/
def EOK (E : EV) : Prop := eS E < eB E ∧ eB E = (eH E).size
theorem k_aload {n : Nat} (hStr : StrRows E SOK) (hE : EOK E) (C : Ctx E SOK mi x d) (hd : decode mi.2.1 pc = .ok (i, len)) (hchk : opChk mi.2.2.2.2.1 mi.2.2.2.2.2 pc len (.aload n) i = true) (hst : stp pN pF (eL E) (eX E) (.aload n) len pc ls st h = some (true, b, pT, pF', ls1, st1, h1)) (hc1 : h1.1.length ≤ xn x + (xR x).cells) (hc2 : tot h1.1 ≤ xt x + (xR x).slots)
    (k : J E mi x (if b = true then pT else pF') ls1 st1 h1) : J E mi x pc ls st h := by
  unfold stp at hst
  dsimp only at hst
  split at hst
  · rename_i a ha
    simp only [go] at hst
    cases hst
    rw [if_pos rfl] at k
    unfold opChk at hchk
    dsimp only at hchk
    split at hchk
    · simp only [Bool.and_eq_true, beq_iff_eq] at hchk
      obtain ⟨rfl, rfl⟩ := hchk
      exact s_aload C hd ha k
    · simp only [Bool.and_eq_true, beq_iff_eq] at hchk
      obtain ⟨rfl, rfl⟩ := hchk
      exact s_aload_n C hd ha k
    · cases hchk
  · cases hst
theorem k_iload {n : Nat} (hStr : StrRows E SOK) (hE : EOK E) (C : Ctx E SOK mi x d) (hd : decode mi.2.1 pc = .ok (i, len)) (hchk : opChk mi.2.2.2.2.1 mi.2.2.2.2.2 pc len (.iload n) i = true) (hst : stp pN pF (eL E) (eX E) (.iload n) len pc ls st h = some (true, b, pT, pF', ls1, st1, h1)) (hc1 : h1.1.length ≤ xn x + (xR x).cells) (hc2 : tot h1.1 ≤ xt x + (xR x).slots)
    (k : J E mi x (if b = true then pT else pF') ls1 st1 h1) : J E mi x pc ls st h := by
  unfold stp at hst
  dsimp only at hst
  split at hst
  · rename_i a ha
    simp only [go] at hst
    cases hst
    rw [if_pos rfl] at k
    unfold opChk at hchk
    dsimp only at hchk
    split at hchk
    · simp only [Bool.and_eq_true, beq_iff_eq] at hchk
      obtain ⟨rfl, rfl⟩ := hchk
      exact s_iload C hd ha k
    · simp only [Bool.and_eq_true, beq_iff_eq] at hchk
      obtain ⟨rfl, rfl⟩ := hchk
      exact s_iload_n C hd ha k
    · cases hchk
  · cases hst
theorem k_lload {n : Nat} (hStr : StrRows E SOK) (hE : EOK E) (C : Ctx E SOK mi x d) (hd : decode mi.2.1 pc = .ok (i, len)) (hchk : opChk mi.2.2.2.2.1 mi.2.2.2.2.2 pc len (.lload n) i = true) (hst : stp pN pF (eL E) (eX E) (.lload n) len pc ls st h = some (true, b, pT, pF', ls1, st1, h1)) (hc1 : h1.1.length ≤ xn x + (xR x).cells) (hc2 : tot h1.1 ≤ xt x + (xR x).slots)
    (k : J E mi x (if b = true then pT else pF') ls1 st1 h1) : J E mi x pc ls st h := by
  unfold stp at hst
  dsimp only at hst
  split at hst
  · rename_i a ha
    simp only [go] at hst
    cases hst
    rw [if_pos rfl] at k
    unfold opChk at hchk
    dsimp only at hchk
    split at hchk
    · simp only [Bool.and_eq_true, beq_iff_eq] at hchk
      obtain ⟨rfl, rfl⟩ := hchk
      exact s_lload C hd ha k
    · simp only [Bool.and_eq_true, beq_iff_eq] at hchk
      obtain ⟨rfl, rfl⟩ := hchk
      exact s_lload_n C hd ha k
    · cases hchk
  · cases hst
theorem k_astore {n : Nat} (hStr : StrRows E SOK) (hE : EOK E) (C : Ctx E SOK mi x d) (hd : decode mi.2.1 pc = .ok (i, len)) (hchk : opChk mi.2.2.2.2.1 mi.2.2.2.2.2 pc len (.astore n) i = true) (hst : stp pN pF (eL E) (eX E) (.astore n) len pc ls st h = some (true, b, pT, pF', ls1, st1, h1)) (hc1 : h1.1.length ≤ xn x + (xR x).cells) (hc2 : tot h1.1 ≤ xt x + (xR x).slots)
    (k : J E mi x (if b = true then pT else pF') ls1 st1 h1) : J E mi x pc ls st h := by
  unfold stp at hst
  dsimp only at hst
  split at hst
  · split at hst
    · rename_i ls2 hs
      simp only [go] at hst
      cases hst
      rw [if_pos rfl] at k
      unfold opChk at hchk
      dsimp only at hchk
      split at hchk
      · simp only [Bool.and_eq_true, beq_iff_eq] at hchk
        obtain ⟨rfl, rfl⟩ := hchk
        exact s_astore C hd hs k
      · simp only [Bool.and_eq_true, beq_iff_eq] at hchk
        obtain ⟨rfl, rfl⟩ := hchk
        exact s_astore_n C hd hs k
      · cases hchk
    · cases hst
  · cases hst
theorem k_istore {n : Nat} (hStr : StrRows E SOK) (hE : EOK E) (C : Ctx E SOK mi x d) (hd : decode mi.2.1 pc = .ok (i, len)) (hchk : opChk mi.2.2.2.2.1 mi.2.2.2.2.2 pc len (.istore n) i = true) (hst : stp pN pF (eL E) (eX E) (.istore n) len pc ls st h = some (true, b, pT, pF', ls1, st1, h1)) (hc1 : h1.1.length ≤ xn x + (xR x).cells) (hc2 : tot h1.1 ≤ xt x + (xR x).slots)
    (k : J E mi x (if b = true then pT else pF') ls1 st1 h1) : J E mi x pc ls st h := by
  unfold stp at hst
  dsimp only at hst
  split at hst
  · split at hst
    · rename_i ls2 hs
      simp only [go] at hst
      cases hst
      rw [if_pos rfl] at k
      unfold opChk at hchk
      dsimp only at hchk
      split at hchk
      · simp only [Bool.and_eq_true, beq_iff_eq] at hchk
        obtain ⟨rfl, rfl⟩ := hchk
        exact s_istore C hd hs k
      · simp only [Bool.and_eq_true, beq_iff_eq] at hchk
        obtain ⟨rfl, rfl⟩ := hchk
        exact s_istore_n C hd hs k
      · cases hchk
    · cases hst
  · cases hst
theorem k_lstore {n : Nat} (hStr : StrRows E SOK) (hE : EOK E) (C : Ctx E SOK mi x d) (hd : decode mi.2.1 pc = .ok (i, len)) (hchk : opChk mi.2.2.2.2.1 mi.2.2.2.2.2 pc len (.lstore n) i = true) (hst : stp pN pF (eL E) (eX E) (.lstore n) len pc ls st h = some (true, b, pT, pF', ls1, st1, h1)) (hc1 : h1.1.length ≤ xn x + (xR x).cells) (hc2 : tot h1.1 ≤ xt x + (xR x).slots)
    (k : J E mi x (if b = true then pT else pF') ls1 st1 h1) : J E mi x pc ls st h := by
  unfold stp at hst
  dsimp only at hst
  split at hst
  · split at hst
    · rename_i ls2 hs
      simp only [go] at hst
      cases hst
      rw [if_pos rfl] at k
      unfold opChk at hchk
      dsimp only at hchk
      split at hchk
      · simp only [Bool.and_eq_true, beq_iff_eq] at hchk
        obtain ⟨rfl, rfl⟩ := hchk
        exact s_lstore C hd hs k
      · simp only [Bool.and_eq_true, beq_iff_eq] at hchk
        obtain ⟨rfl, rfl⟩ := hchk
        exact s_lstore_n C hd hs k
      · cases hchk
    · cases hst
  · cases hst
theorem k_iinc {n : Nat} {c : Int} (hStr : StrRows E SOK) (hE : EOK E) (C : Ctx E SOK mi x d) (hd : decode mi.2.1 pc = .ok (i, len)) (hchk : opChk mi.2.2.2.2.1 mi.2.2.2.2.2 pc len (.iinc n c) i = true) (hst : stp pN pF (eL E) (eX E) (.iinc n c) len pc ls st h = some (true, b, pT, pF', ls1, st1, h1)) (hc1 : h1.1.length ≤ xn x + (xR x).cells) (hc2 : tot h1.1 ≤ xt x + (xR x).slots)
    (k : J E mi x (if b = true then pT else pF') ls1 st1 h1) : J E mi x pc ls st h := by
  unfold stp at hst
  dsimp only at hst
  split at hst
  · rename_i a ha
    split at hst
    · rename_i ls2 hs
      simp only [go] at hst
      cases hst
      rw [if_pos rfl] at k
      unfold opChk at hchk
      dsimp only at hchk
      split at hchk
      · simp only [Bool.and_eq_true, beq_iff_eq, decide_eq_true_eq] at hchk
        obtain ⟨⟨rfl, hv⟩, rfl⟩ := hchk
        exact s_iinc C hd ha hv.symm hs k
      · cases hchk
    · cases hst
  · cases hst
theorem k_iconst {n : Int} (hStr : StrRows E SOK) (hE : EOK E) (C : Ctx E SOK mi x d) (hd : decode mi.2.1 pc = .ok (i, len)) (hchk : opChk mi.2.2.2.2.1 mi.2.2.2.2.2 pc len (.iconst n) i = true) (hst : stp pN pF (eL E) (eX E) (.iconst n) len pc ls st h = some (true, b, pT, pF', ls1, st1, h1)) (hc1 : h1.1.length ≤ xn x + (xR x).cells) (hc2 : tot h1.1 ≤ xt x + (xR x).slots)
    (k : J E mi x (if b = true then pT else pF') ls1 st1 h1) : J E mi x pc ls st h := by
  unfold stp at hst
  dsimp only at hst
  simp only [go] at hst
  cases hst
  rw [if_pos rfl] at k
  unfold opChk at hchk
  dsimp only at hchk
  split at hchk
  · simp only [Bool.and_eq_true, beq_iff_eq, decide_eq_true_eq] at hchk
    obtain ⟨hv, rfl⟩ := hchk
    exact s_iconst C hd hv k
  · simp only [Bool.and_eq_true, beq_iff_eq, decide_eq_true_eq] at hchk
    obtain ⟨hv, rfl⟩ := hchk
    exact s_bipush C hd hv k
  · simp only [Bool.and_eq_true, beq_iff_eq, decide_eq_true_eq] at hchk
    obtain ⟨hv, rfl⟩ := hchk
    exact s_sipush C hd hv k
  · simp only [Bool.and_eq_true, beq_iff_eq] at hchk
    obtain ⟨hv, rfl⟩ := hchk
    exact s_ldc C hd (kl_fact hv) k
  · simp only [Bool.and_eq_true, beq_iff_eq] at hchk
    obtain ⟨hv, rfl⟩ := hchk
    exact s_ldcw C hd (kl_fact hv) k
  · cases hchk
theorem k_lconst {n : Fin 2} (hStr : StrRows E SOK) (hE : EOK E) (C : Ctx E SOK mi x d) (hd : decode mi.2.1 pc = .ok (i, len)) (hchk : opChk mi.2.2.2.2.1 mi.2.2.2.2.2 pc len (.lconst n) i = true) (hst : stp pN pF (eL E) (eX E) (.lconst n) len pc ls st h = some (true, b, pT, pF', ls1, st1, h1)) (hc1 : h1.1.length ≤ xn x + (xR x).cells) (hc2 : tot h1.1 ≤ xt x + (xR x).slots)
    (k : J E mi x (if b = true then pT else pF') ls1 st1 h1) : J E mi x pc ls st h := by
  unfold stp at hst
  dsimp only at hst
  simp only [go] at hst
  cases hst
  rw [if_pos rfl] at k
  unfold opChk at hchk
  dsimp only at hchk
  split at hchk
  · simp only [Bool.and_eq_true, beq_iff_eq] at hchk
    obtain ⟨rfl, rfl⟩ := hchk
    exact s_lconst C hd k
  · cases hchk
theorem k_ldc_w {n : Nat} (hStr : StrRows E SOK) (hE : EOK E) (C : Ctx E SOK mi x d) (hd : decode mi.2.1 pc = .ok (i, len)) (hchk : opChk mi.2.2.2.2.1 mi.2.2.2.2.2 pc len (.ldc_w n) i = true) (hst : stp pN pF (eL E) (eX E) (.ldc_w n) len pc ls st h = some (true, b, pT, pF', ls1, st1, h1)) (hc1 : h1.1.length ≤ xn x + (xR x).cells) (hc2 : tot h1.1 ≤ xt x + (xR x).slots)
    (k : J E mi x (if b = true then pT else pF') ls1 st1 h1) : J E mi x pc ls st h := by
  unfold stp at hst
  dsimp only at hst
  simp only [go] at hst
  cases hst
  rw [if_pos rfl] at k
  unfold opChk at hchk
  dsimp only at hchk
  split at hchk
  · simp only [Bool.and_eq_true, beq_iff_eq] at hchk
    obtain ⟨⟨h5, rfl⟩, rfl⟩ := hchk
    exact (hStr mi x d pc _ _ _ C).1 hd h5 k
  · cases hchk
theorem k_iadd  (hStr : StrRows E SOK) (hE : EOK E) (C : Ctx E SOK mi x d) (hd : decode mi.2.1 pc = .ok (i, len)) (hchk : opChk mi.2.2.2.2.1 mi.2.2.2.2.2 pc len (.iadd) i = true) (hst : stp pN pF (eL E) (eX E) (.iadd) len pc ls st h = some (true, b, pT, pF', ls1, st1, h1)) (hc1 : h1.1.length ≤ xn x + (xR x).cells) (hc2 : tot h1.1 ≤ xt x + (xR x).slots)
    (k : J E mi x (if b = true then pT else pF') ls1 st1 h1) : J E mi x pc ls st h := by
  have hi := hchk
  unfold opChk at hi
  dsimp only at hi
  simp only [Bool.and_eq_true, beq_iff_eq] at hi
  obtain ⟨⟨-, hi⟩, rfl⟩ := hi
  have hi := beq_plain rfl hi
  subst hi
  unfold stp at hst
  dsimp only at hst
  split at hst
  · simp only [go, goIf] at hst
    cases hst
    rw [if_pos rfl] at k
    exact s_iadd C hd k
  · cases hst
theorem k_isub  (hStr : StrRows E SOK) (hE : EOK E) (C : Ctx E SOK mi x d) (hd : decode mi.2.1 pc = .ok (i, len)) (hchk : opChk mi.2.2.2.2.1 mi.2.2.2.2.2 pc len (.isub) i = true) (hst : stp pN pF (eL E) (eX E) (.isub) len pc ls st h = some (true, b, pT, pF', ls1, st1, h1)) (hc1 : h1.1.length ≤ xn x + (xR x).cells) (hc2 : tot h1.1 ≤ xt x + (xR x).slots)
    (k : J E mi x (if b = true then pT else pF') ls1 st1 h1) : J E mi x pc ls st h := by
  have hi := hchk
  unfold opChk at hi
  dsimp only at hi
  simp only [Bool.and_eq_true, beq_iff_eq] at hi
  obtain ⟨⟨-, hi⟩, rfl⟩ := hi
  have hi := beq_plain rfl hi
  subst hi
  unfold stp at hst
  dsimp only at hst
  split at hst
  · simp only [go, goIf] at hst
    cases hst
    rw [if_pos rfl] at k
    exact s_isub C hd k
  · cases hst
theorem k_imul  (hStr : StrRows E SOK) (hE : EOK E) (C : Ctx E SOK mi x d) (hd : decode mi.2.1 pc = .ok (i, len)) (hchk : opChk mi.2.2.2.2.1 mi.2.2.2.2.2 pc len (.imul) i = true) (hst : stp pN pF (eL E) (eX E) (.imul) len pc ls st h = some (true, b, pT, pF', ls1, st1, h1)) (hc1 : h1.1.length ≤ xn x + (xR x).cells) (hc2 : tot h1.1 ≤ xt x + (xR x).slots)
    (k : J E mi x (if b = true then pT else pF') ls1 st1 h1) : J E mi x pc ls st h := by
  have hi := hchk
  unfold opChk at hi
  dsimp only at hi
  simp only [Bool.and_eq_true, beq_iff_eq] at hi
  obtain ⟨⟨-, hi⟩, rfl⟩ := hi
  have hi := beq_plain rfl hi
  subst hi
  unfold stp at hst
  dsimp only at hst
  split at hst
  · simp only [go, goIf] at hst
    cases hst
    rw [if_pos rfl] at k
    exact s_imul C hd k
  · cases hst
theorem k_iand  (hStr : StrRows E SOK) (hE : EOK E) (C : Ctx E SOK mi x d) (hd : decode mi.2.1 pc = .ok (i, len)) (hchk : opChk mi.2.2.2.2.1 mi.2.2.2.2.2 pc len (.iand) i = true) (hst : stp pN pF (eL E) (eX E) (.iand) len pc ls st h = some (true, b, pT, pF', ls1, st1, h1)) (hc1 : h1.1.length ≤ xn x + (xR x).cells) (hc2 : tot h1.1 ≤ xt x + (xR x).slots)
    (k : J E mi x (if b = true then pT else pF') ls1 st1 h1) : J E mi x pc ls st h := by
  have hi := hchk
  unfold opChk at hi
  dsimp only at hi
  simp only [Bool.and_eq_true, beq_iff_eq] at hi
  obtain ⟨⟨-, hi⟩, rfl⟩ := hi
  have hi := beq_plain rfl hi
  subst hi
  unfold stp at hst
  dsimp only at hst
  split at hst
  · simp only [go, goIf] at hst
    cases hst
    rw [if_pos rfl] at k
    exact s_iand C hd k
  · cases hst
theorem k_ior  (hStr : StrRows E SOK) (hE : EOK E) (C : Ctx E SOK mi x d) (hd : decode mi.2.1 pc = .ok (i, len)) (hchk : opChk mi.2.2.2.2.1 mi.2.2.2.2.2 pc len (.ior) i = true) (hst : stp pN pF (eL E) (eX E) (.ior) len pc ls st h = some (true, b, pT, pF', ls1, st1, h1)) (hc1 : h1.1.length ≤ xn x + (xR x).cells) (hc2 : tot h1.1 ≤ xt x + (xR x).slots)
    (k : J E mi x (if b = true then pT else pF') ls1 st1 h1) : J E mi x pc ls st h := by
  have hi := hchk
  unfold opChk at hi
  dsimp only at hi
  simp only [Bool.and_eq_true, beq_iff_eq] at hi
  obtain ⟨⟨-, hi⟩, rfl⟩ := hi
  have hi := beq_plain rfl hi
  subst hi
  unfold stp at hst
  dsimp only at hst
  split at hst
  · simp only [go, goIf] at hst
    cases hst
    rw [if_pos rfl] at k
    exact s_ior C hd k
  · cases hst
theorem k_ixor  (hStr : StrRows E SOK) (hE : EOK E) (C : Ctx E SOK mi x d) (hd : decode mi.2.1 pc = .ok (i, len)) (hchk : opChk mi.2.2.2.2.1 mi.2.2.2.2.2 pc len (.ixor) i = true) (hst : stp pN pF (eL E) (eX E) (.ixor) len pc ls st h = some (true, b, pT, pF', ls1, st1, h1)) (hc1 : h1.1.length ≤ xn x + (xR x).cells) (hc2 : tot h1.1 ≤ xt x + (xR x).slots)
    (k : J E mi x (if b = true then pT else pF') ls1 st1 h1) : J E mi x pc ls st h := by
  have hi := hchk
  unfold opChk at hi
  dsimp only at hi
  simp only [Bool.and_eq_true, beq_iff_eq] at hi
  obtain ⟨⟨-, hi⟩, rfl⟩ := hi
  have hi := beq_plain rfl hi
  subst hi
  unfold stp at hst
  dsimp only at hst
  split at hst
  · simp only [go, goIf] at hst
    cases hst
    rw [if_pos rfl] at k
    exact s_ixor C hd k
  · cases hst
theorem k_ishl  (hStr : StrRows E SOK) (hE : EOK E) (C : Ctx E SOK mi x d) (hd : decode mi.2.1 pc = .ok (i, len)) (hchk : opChk mi.2.2.2.2.1 mi.2.2.2.2.2 pc len (.ishl) i = true) (hst : stp pN pF (eL E) (eX E) (.ishl) len pc ls st h = some (true, b, pT, pF', ls1, st1, h1)) (hc1 : h1.1.length ≤ xn x + (xR x).cells) (hc2 : tot h1.1 ≤ xt x + (xR x).slots)
    (k : J E mi x (if b = true then pT else pF') ls1 st1 h1) : J E mi x pc ls st h := by
  have hi := hchk
  unfold opChk at hi
  dsimp only at hi
  simp only [Bool.and_eq_true, beq_iff_eq] at hi
  obtain ⟨⟨-, hi⟩, rfl⟩ := hi
  have hi := beq_plain rfl hi
  subst hi
  unfold stp at hst
  dsimp only at hst
  split at hst
  · simp only [go, goIf] at hst
    cases hst
    rw [if_pos rfl] at k
    exact s_ishl C hd k
  · cases hst
theorem k_ishr  (hStr : StrRows E SOK) (hE : EOK E) (C : Ctx E SOK mi x d) (hd : decode mi.2.1 pc = .ok (i, len)) (hchk : opChk mi.2.2.2.2.1 mi.2.2.2.2.2 pc len (.ishr) i = true) (hst : stp pN pF (eL E) (eX E) (.ishr) len pc ls st h = some (true, b, pT, pF', ls1, st1, h1)) (hc1 : h1.1.length ≤ xn x + (xR x).cells) (hc2 : tot h1.1 ≤ xt x + (xR x).slots)
    (k : J E mi x (if b = true then pT else pF') ls1 st1 h1) : J E mi x pc ls st h := by
  have hi := hchk
  unfold opChk at hi
  dsimp only at hi
  simp only [Bool.and_eq_true, beq_iff_eq] at hi
  obtain ⟨⟨-, hi⟩, rfl⟩ := hi
  have hi := beq_plain rfl hi
  subst hi
  unfold stp at hst
  dsimp only at hst
  split at hst
  · simp only [go, goIf] at hst
    cases hst
    rw [if_pos rfl] at k
    exact s_ishr C hd k
  · cases hst
theorem k_iushr  (hStr : StrRows E SOK) (hE : EOK E) (C : Ctx E SOK mi x d) (hd : decode mi.2.1 pc = .ok (i, len)) (hchk : opChk mi.2.2.2.2.1 mi.2.2.2.2.2 pc len (.iushr) i = true) (hst : stp pN pF (eL E) (eX E) (.iushr) len pc ls st h = some (true, b, pT, pF', ls1, st1, h1)) (hc1 : h1.1.length ≤ xn x + (xR x).cells) (hc2 : tot h1.1 ≤ xt x + (xR x).slots)
    (k : J E mi x (if b = true then pT else pF') ls1 st1 h1) : J E mi x pc ls st h := by
  have hi := hchk
  unfold opChk at hi
  dsimp only at hi
  simp only [Bool.and_eq_true, beq_iff_eq] at hi
  obtain ⟨⟨-, hi⟩, rfl⟩ := hi
  have hi := beq_plain rfl hi
  subst hi
  unfold stp at hst
  dsimp only at hst
  split at hst
  · simp only [go, goIf] at hst
    cases hst
    rw [if_pos rfl] at k
    exact s_iushr C hd k
  · cases hst
theorem k_ineg  (hStr : StrRows E SOK) (hE : EOK E) (C : Ctx E SOK mi x d) (hd : decode mi.2.1 pc = .ok (i, len)) (hchk : opChk mi.2.2.2.2.1 mi.2.2.2.2.2 pc len (.ineg) i = true) (hst : stp pN pF (eL E) (eX E) (.ineg) len pc ls st h = some (true, b, pT, pF', ls1, st1, h1)) (hc1 : h1.1.length ≤ xn x + (xR x).cells) (hc2 : tot h1.1 ≤ xt x + (xR x).slots)
    (k : J E mi x (if b = true then pT else pF') ls1 st1 h1) : J E mi x pc ls st h := by
  have hi := hchk
  unfold opChk at hi
  dsimp only at hi
  simp only [Bool.and_eq_true, beq_iff_eq] at hi
  obtain ⟨⟨-, hi⟩, rfl⟩ := hi
  have hi := beq_plain rfl hi
  subst hi
  unfold stp at hst
  dsimp only at hst
  split at hst
  · simp only [go, goIf] at hst
    cases hst
    rw [if_pos rfl] at k
    exact s_ineg C hd k
  · cases hst
theorem k_lsub  (hStr : StrRows E SOK) (hE : EOK E) (C : Ctx E SOK mi x d) (hd : decode mi.2.1 pc = .ok (i, len)) (hchk : opChk mi.2.2.2.2.1 mi.2.2.2.2.2 pc len (.lsub) i = true) (hst : stp pN pF (eL E) (eX E) (.lsub) len pc ls st h = some (true, b, pT, pF', ls1, st1, h1)) (hc1 : h1.1.length ≤ xn x + (xR x).cells) (hc2 : tot h1.1 ≤ xt x + (xR x).slots)
    (k : J E mi x (if b = true then pT else pF') ls1 st1 h1) : J E mi x pc ls st h := by
  have hi := hchk
  unfold opChk at hi
  dsimp only at hi
  simp only [Bool.and_eq_true, beq_iff_eq] at hi
  obtain ⟨⟨-, hi⟩, rfl⟩ := hi
  have hi := beq_plain rfl hi
  subst hi
  unfold stp at hst
  dsimp only at hst
  split at hst
  · simp only [go, goIf] at hst
    cases hst
    rw [if_pos rfl] at k
    exact s_lsub C hd k
  · cases hst
theorem k_lmul  (hStr : StrRows E SOK) (hE : EOK E) (C : Ctx E SOK mi x d) (hd : decode mi.2.1 pc = .ok (i, len)) (hchk : opChk mi.2.2.2.2.1 mi.2.2.2.2.2 pc len (.lmul) i = true) (hst : stp pN pF (eL E) (eX E) (.lmul) len pc ls st h = some (true, b, pT, pF', ls1, st1, h1)) (hc1 : h1.1.length ≤ xn x + (xR x).cells) (hc2 : tot h1.1 ≤ xt x + (xR x).slots)
    (k : J E mi x (if b = true then pT else pF') ls1 st1 h1) : J E mi x pc ls st h := by
  have hi := hchk
  unfold opChk at hi
  dsimp only at hi
  simp only [Bool.and_eq_true, beq_iff_eq] at hi
  obtain ⟨⟨-, hi⟩, rfl⟩ := hi
  have hi := beq_plain rfl hi
  subst hi
  unfold stp at hst
  dsimp only at hst
  split at hst
  · simp only [go, goIf] at hst
    cases hst
    rw [if_pos rfl] at k
    exact s_lmul C hd k
  · cases hst
theorem k_lcmp  (hStr : StrRows E SOK) (hE : EOK E) (C : Ctx E SOK mi x d) (hd : decode mi.2.1 pc = .ok (i, len)) (hchk : opChk mi.2.2.2.2.1 mi.2.2.2.2.2 pc len (.lcmp) i = true) (hst : stp pN pF (eL E) (eX E) (.lcmp) len pc ls st h = some (true, b, pT, pF', ls1, st1, h1)) (hc1 : h1.1.length ≤ xn x + (xR x).cells) (hc2 : tot h1.1 ≤ xt x + (xR x).slots)
    (k : J E mi x (if b = true then pT else pF') ls1 st1 h1) : J E mi x pc ls st h := by
  have hi := hchk
  unfold opChk at hi
  dsimp only at hi
  simp only [Bool.and_eq_true, beq_iff_eq] at hi
  obtain ⟨⟨-, hi⟩, rfl⟩ := hi
  have hi := beq_plain rfl hi
  subst hi
  unfold stp at hst
  dsimp only at hst
  split at hst
  · simp only [go, goIf] at hst
    cases hst
    rw [if_pos rfl] at k
    exact s_lcmp C hd k
  · cases hst
theorem k_i2l  (hStr : StrRows E SOK) (hE : EOK E) (C : Ctx E SOK mi x d) (hd : decode mi.2.1 pc = .ok (i, len)) (hchk : opChk mi.2.2.2.2.1 mi.2.2.2.2.2 pc len (.i2l) i = true) (hst : stp pN pF (eL E) (eX E) (.i2l) len pc ls st h = some (true, b, pT, pF', ls1, st1, h1)) (hc1 : h1.1.length ≤ xn x + (xR x).cells) (hc2 : tot h1.1 ≤ xt x + (xR x).slots)
    (k : J E mi x (if b = true then pT else pF') ls1 st1 h1) : J E mi x pc ls st h := by
  have hi := hchk
  unfold opChk at hi
  dsimp only at hi
  simp only [Bool.and_eq_true, beq_iff_eq] at hi
  obtain ⟨⟨-, hi⟩, rfl⟩ := hi
  have hi := beq_plain rfl hi
  subst hi
  unfold stp at hst
  dsimp only at hst
  split at hst
  · simp only [go, goIf] at hst
    cases hst
    rw [if_pos rfl] at k
    exact s_i2l C hd k
  · cases hst
theorem k_l2i  (hStr : StrRows E SOK) (hE : EOK E) (C : Ctx E SOK mi x d) (hd : decode mi.2.1 pc = .ok (i, len)) (hchk : opChk mi.2.2.2.2.1 mi.2.2.2.2.2 pc len (.l2i) i = true) (hst : stp pN pF (eL E) (eX E) (.l2i) len pc ls st h = some (true, b, pT, pF', ls1, st1, h1)) (hc1 : h1.1.length ≤ xn x + (xR x).cells) (hc2 : tot h1.1 ≤ xt x + (xR x).slots)
    (k : J E mi x (if b = true then pT else pF') ls1 st1 h1) : J E mi x pc ls st h := by
  have hi := hchk
  unfold opChk at hi
  dsimp only at hi
  simp only [Bool.and_eq_true, beq_iff_eq] at hi
  obtain ⟨⟨-, hi⟩, rfl⟩ := hi
  have hi := beq_plain rfl hi
  subst hi
  unfold stp at hst
  dsimp only at hst
  split at hst
  · simp only [go, goIf] at hst
    cases hst
    rw [if_pos rfl] at k
    exact s_l2i C hd k
  · cases hst
theorem k_pop  (hStr : StrRows E SOK) (hE : EOK E) (C : Ctx E SOK mi x d) (hd : decode mi.2.1 pc = .ok (i, len)) (hchk : opChk mi.2.2.2.2.1 mi.2.2.2.2.2 pc len (.pop) i = true) (hst : stp pN pF (eL E) (eX E) (.pop) len pc ls st h = some (true, b, pT, pF', ls1, st1, h1)) (hc1 : h1.1.length ≤ xn x + (xR x).cells) (hc2 : tot h1.1 ≤ xt x + (xR x).slots)
    (k : J E mi x (if b = true then pT else pF') ls1 st1 h1) : J E mi x pc ls st h := by
  have hi := hchk
  unfold opChk at hi
  dsimp only at hi
  simp only [Bool.and_eq_true, beq_iff_eq] at hi
  obtain ⟨⟨-, hi⟩, rfl⟩ := hi
  have hi := beq_plain rfl hi
  subst hi
  unfold stp at hst
  dsimp only at hst
  split at hst
  · simp only [go, goIf] at hst
    cases hst
    rw [if_pos rfl] at k
    exact s_pop C hd k
  · cases hst
theorem k_idiv  (hStr : StrRows E SOK) (hE : EOK E) (C : Ctx E SOK mi x d) (hd : decode mi.2.1 pc = .ok (i, len)) (hchk : opChk mi.2.2.2.2.1 mi.2.2.2.2.2 pc len (.idiv) i = true) (hst : stp pN pF (eL E) (eX E) (.idiv) len pc ls st h = some (true, b, pT, pF', ls1, st1, h1)) (hc1 : h1.1.length ≤ xn x + (xR x).cells) (hc2 : tot h1.1 ≤ xt x + (xR x).slots)
    (k : J E mi x (if b = true then pT else pF') ls1 st1 h1) : J E mi x pc ls st h := by
  have hi := hchk
  unfold opChk at hi
  dsimp only at hi
  simp only [Bool.and_eq_true, beq_iff_eq] at hi
  obtain ⟨⟨-, hi⟩, rfl⟩ := hi
  have hi := beq_plain rfl hi
  subst hi
  unfold stp at hst
  dsimp only at hst
  split at hst
  · simp only [go, goIf] at hst
    simp only [Option.some.injEq, Prod.mk.injEq] at hst
    obtain ⟨ho, rfl, rfl, rfl, rfl, rfl, rfl⟩ := hst
    simp only [Bool.and_eq_true, Bool.or_eq_true, Bool.not_eq_true', decide_eq_false_iff_not, decide_eq_true_eq] at ho
    rw [if_pos rfl] at k
    exact s_idiv C hd ho k
  · cases hst
theorem k_irem  (hStr : StrRows E SOK) (hE : EOK E) (C : Ctx E SOK mi x d) (hd : decode mi.2.1 pc = .ok (i, len)) (hchk : opChk mi.2.2.2.2.1 mi.2.2.2.2.2 pc len (.irem) i = true) (hst : stp pN pF (eL E) (eX E) (.irem) len pc ls st h = some (true, b, pT, pF', ls1, st1, h1)) (hc1 : h1.1.length ≤ xn x + (xR x).cells) (hc2 : tot h1.1 ≤ xt x + (xR x).slots)
    (k : J E mi x (if b = true then pT else pF') ls1 st1 h1) : J E mi x pc ls st h := by
  have hi := hchk
  unfold opChk at hi
  dsimp only at hi
  simp only [Bool.and_eq_true, beq_iff_eq] at hi
  obtain ⟨⟨-, hi⟩, rfl⟩ := hi
  have hi := beq_plain rfl hi
  subst hi
  unfold stp at hst
  dsimp only at hst
  split at hst
  · simp only [go, goIf] at hst
    simp only [Option.some.injEq, Prod.mk.injEq] at hst
    obtain ⟨ho, rfl, rfl, rfl, rfl, rfl, rfl⟩ := hst
    simp only [Bool.and_eq_true, Bool.or_eq_true, Bool.not_eq_true', decide_eq_false_iff_not, decide_eq_true_eq] at ho
    rw [if_pos rfl] at k
    exact s_irem C hd ho k
  · cases hst
theorem k_ldiv  (hStr : StrRows E SOK) (hE : EOK E) (C : Ctx E SOK mi x d) (hd : decode mi.2.1 pc = .ok (i, len)) (hchk : opChk mi.2.2.2.2.1 mi.2.2.2.2.2 pc len (.ldiv) i = true) (hst : stp pN pF (eL E) (eX E) (.ldiv) len pc ls st h = some (true, b, pT, pF', ls1, st1, h1)) (hc1 : h1.1.length ≤ xn x + (xR x).cells) (hc2 : tot h1.1 ≤ xt x + (xR x).slots)
    (k : J E mi x (if b = true then pT else pF') ls1 st1 h1) : J E mi x pc ls st h := by
  have hi := hchk
  unfold opChk at hi
  dsimp only at hi
  simp only [Bool.and_eq_true, beq_iff_eq] at hi
  obtain ⟨⟨-, hi⟩, rfl⟩ := hi
  have hi := beq_plain rfl hi
  subst hi
  unfold stp at hst
  dsimp only at hst
  split at hst
  · simp only [go, goIf] at hst
    simp only [Option.some.injEq, Prod.mk.injEq] at hst
    obtain ⟨ho, rfl, rfl, rfl, rfl, rfl, rfl⟩ := hst
    simp only [Bool.and_eq_true, Bool.or_eq_true, Bool.not_eq_true', decide_eq_false_iff_not, decide_eq_true_eq] at ho
    rw [if_pos rfl] at k
    exact s_ldiv C hd ho k
  · cases hst
theorem k_lrem  (hStr : StrRows E SOK) (hE : EOK E) (C : Ctx E SOK mi x d) (hd : decode mi.2.1 pc = .ok (i, len)) (hchk : opChk mi.2.2.2.2.1 mi.2.2.2.2.2 pc len (.lrem) i = true) (hst : stp pN pF (eL E) (eX E) (.lrem) len pc ls st h = some (true, b, pT, pF', ls1, st1, h1)) (hc1 : h1.1.length ≤ xn x + (xR x).cells) (hc2 : tot h1.1 ≤ xt x + (xR x).slots)
    (k : J E mi x (if b = true then pT else pF') ls1 st1 h1) : J E mi x pc ls st h := by
  have hi := hchk
  unfold opChk at hi
  dsimp only at hi
  simp only [Bool.and_eq_true, beq_iff_eq] at hi
  obtain ⟨⟨-, hi⟩, rfl⟩ := hi
  have hi := beq_plain rfl hi
  subst hi
  unfold stp at hst
  dsimp only at hst
  split at hst
  · simp only [go, goIf] at hst
    simp only [Option.some.injEq, Prod.mk.injEq] at hst
    obtain ⟨ho, rfl, rfl, rfl, rfl, rfl, rfl⟩ := hst
    simp only [Bool.and_eq_true, Bool.or_eq_true, Bool.not_eq_true', decide_eq_false_iff_not, decide_eq_true_eq] at ho
    rw [if_pos rfl] at k
    exact s_lrem C hd ho k
  · cases hst
theorem k_iaload  (hStr : StrRows E SOK) (hE : EOK E) (C : Ctx E SOK mi x d) (hd : decode mi.2.1 pc = .ok (i, len)) (hchk : opChk mi.2.2.2.2.1 mi.2.2.2.2.2 pc len (.iaload) i = true) (hst : stp pN pF (eL E) (eX E) (.iaload) len pc ls st h = some (true, b, pT, pF', ls1, st1, h1)) (hc1 : h1.1.length ≤ xn x + (xR x).cells) (hc2 : tot h1.1 ≤ xt x + (xR x).slots)
    (k : J E mi x (if b = true then pT else pF') ls1 st1 h1) : J E mi x pc ls st h := by
  have hi := hchk
  unfold opChk at hi
  dsimp only at hi
  simp only [Bool.and_eq_true, beq_iff_eq] at hi
  obtain ⟨⟨-, hi⟩, rfl⟩ := hi
  have hi := beq_plain rfl hi
  subst hi
  unfold stp at hst
  dsimp only at hst
  split at hst
  · simp only [go, goIf] at hst
    simp only [Option.some.injEq, Prod.mk.injEq] at hst
    obtain ⟨ho, rfl, rfl, rfl, rfl, rfl, rfl⟩ := hst
    simp only [Bool.and_eq_true, Bool.or_eq_true, Bool.not_eq_true', decide_eq_false_iff_not, decide_eq_true_eq] at ho
    rw [if_pos rfl] at k
    exact s_iaload C hd ho.1 ho.2 k
  · cases hst
theorem k_iastore  (hStr : StrRows E SOK) (hE : EOK E) (C : Ctx E SOK mi x d) (hd : decode mi.2.1 pc = .ok (i, len)) (hchk : opChk mi.2.2.2.2.1 mi.2.2.2.2.2 pc len (.iastore) i = true) (hst : stp pN pF (eL E) (eX E) (.iastore) len pc ls st h = some (true, b, pT, pF', ls1, st1, h1)) (hc1 : h1.1.length ≤ xn x + (xR x).cells) (hc2 : tot h1.1 ≤ xt x + (xR x).slots)
    (k : J E mi x (if b = true then pT else pF') ls1 st1 h1) : J E mi x pc ls st h := by
  have hi := hchk
  unfold opChk at hi
  dsimp only at hi
  simp only [Bool.and_eq_true, beq_iff_eq] at hi
  obtain ⟨⟨-, hi⟩, rfl⟩ := hi
  have hi := beq_plain rfl hi
  subst hi
  unfold stp at hst
  dsimp only at hst
  split at hst
  · simp only [go, goIf] at hst
    simp only [Option.some.injEq, Prod.mk.injEq] at hst
    obtain ⟨ho, rfl, rfl, rfl, rfl, rfl, rfl⟩ := hst
    simp only [Bool.and_eq_true, Bool.or_eq_true, Bool.not_eq_true', decide_eq_false_iff_not, decide_eq_true_eq] at ho
    rw [if_pos rfl] at k
    exact s_iastore C hd ho.1 ho.2 k
  · cases hst
theorem k_aaload  (hStr : StrRows E SOK) (hE : EOK E) (C : Ctx E SOK mi x d) (hd : decode mi.2.1 pc = .ok (i, len)) (hchk : opChk mi.2.2.2.2.1 mi.2.2.2.2.2 pc len (.aaload) i = true) (hst : stp pN pF (eL E) (eX E) (.aaload) len pc ls st h = some (true, b, pT, pF', ls1, st1, h1)) (hc1 : h1.1.length ≤ xn x + (xR x).cells) (hc2 : tot h1.1 ≤ xt x + (xR x).slots)
    (k : J E mi x (if b = true then pT else pF') ls1 st1 h1) : J E mi x pc ls st h := by
  have hi := hchk
  unfold opChk at hi
  dsimp only at hi
  simp only [Bool.and_eq_true, beq_iff_eq] at hi
  obtain ⟨⟨-, hi⟩, rfl⟩ := hi
  have hi := beq_plain rfl hi
  subst hi
  unfold stp at hst
  dsimp only at hst
  split at hst
  · simp only [go, goIf] at hst
    simp only [Option.some.injEq, Prod.mk.injEq] at hst
    obtain ⟨ho, rfl, rfl, rfl, rfl, rfl, rfl⟩ := hst
    simp only [Bool.and_eq_true, Bool.or_eq_true, Bool.not_eq_true', decide_eq_false_iff_not, decide_eq_true_eq] at ho
    rw [if_pos rfl] at k
    exact s_aaload C hd ho.1.1 ho.1.2 ho.2 k
  · cases hst
theorem k_aastore  (hStr : StrRows E SOK) (hE : EOK E) (C : Ctx E SOK mi x d) (hd : decode mi.2.1 pc = .ok (i, len)) (hchk : opChk mi.2.2.2.2.1 mi.2.2.2.2.2 pc len (.aastore) i = true) (hst : stp pN pF (eL E) (eX E) (.aastore) len pc ls st h = some (true, b, pT, pF', ls1, st1, h1)) (hc1 : h1.1.length ≤ xn x + (xR x).cells) (hc2 : tot h1.1 ≤ xt x + (xR x).slots)
    (k : J E mi x (if b = true then pT else pF') ls1 st1 h1) : J E mi x pc ls st h := by
  have hi := hchk
  unfold opChk at hi
  dsimp only at hi
  simp only [Bool.and_eq_true, beq_iff_eq] at hi
  obtain ⟨⟨-, hi⟩, rfl⟩ := hi
  have hi := beq_plain rfl hi
  subst hi
  unfold stp at hst
  dsimp only at hst
  split at hst
  · simp only [go, goIf] at hst
    simp only [Option.some.injEq, Prod.mk.injEq] at hst
    obtain ⟨ho, rfl, rfl, rfl, rfl, rfl, rfl⟩ := hst
    simp only [Bool.and_eq_true, Bool.or_eq_true, Bool.not_eq_true', decide_eq_false_iff_not, decide_eq_true_eq] at ho
    rw [if_pos rfl] at k
    exact s_aastore C hd ho.1.1 ho.1.2 ho.2 k
  · cases hst
theorem k_arraylength  (hStr : StrRows E SOK) (hE : EOK E) (C : Ctx E SOK mi x d) (hd : decode mi.2.1 pc = .ok (i, len)) (hchk : opChk mi.2.2.2.2.1 mi.2.2.2.2.2 pc len (.arraylength) i = true) (hst : stp pN pF (eL E) (eX E) (.arraylength) len pc ls st h = some (true, b, pT, pF', ls1, st1, h1)) (hc1 : h1.1.length ≤ xn x + (xR x).cells) (hc2 : tot h1.1 ≤ xt x + (xR x).slots)
    (k : J E mi x (if b = true then pT else pF') ls1 st1 h1) : J E mi x pc ls st h := by
  have hi := hchk
  unfold opChk at hi
  dsimp only at hi
  simp only [Bool.and_eq_true, beq_iff_eq] at hi
  obtain ⟨⟨-, hi⟩, rfl⟩ := hi
  have hi := beq_plain rfl hi
  subst hi
  unfold stp at hst
  dsimp only at hst
  split at hst
  · simp only [go, goIf] at hst
    simp only [Option.some.injEq, Prod.mk.injEq] at hst
    obtain ⟨ho, rfl, rfl, rfl, rfl, rfl, rfl⟩ := hst
    rw [if_pos rfl] at k
    exact s_arraylength C hd ho k
  · cases hst
theorem k_dup  (hStr : StrRows E SOK) (hE : EOK E) (C : Ctx E SOK mi x d) (hd : decode mi.2.1 pc = .ok (i, len)) (hchk : opChk mi.2.2.2.2.1 mi.2.2.2.2.2 pc len (.dup) i = true) (hst : stp pN pF (eL E) (eX E) (.dup) len pc ls st h = some (true, b, pT, pF', ls1, st1, h1)) (hc1 : h1.1.length ≤ xn x + (xR x).cells) (hc2 : tot h1.1 ≤ xt x + (xR x).slots)
    (k : J E mi x (if b = true then pT else pF') ls1 st1 h1) : J E mi x pc ls st h := by
  have hi := hchk
  unfold opChk at hi
  dsimp only at hi
  simp only [Bool.and_eq_true, beq_iff_eq] at hi
  obtain ⟨⟨-, hi⟩, rfl⟩ := hi
  have hi := beq_plain rfl hi
  subst hi
  unfold stp at hst
  dsimp only at hst
  split at hst
  · simp only [go] at hst
    cases hst
    rw [if_pos rfl] at k
    exact s_dup C hd rfl k
  · simp only [go] at hst
    cases hst
    rw [if_pos rfl] at k
    exact s_dup C hd rfl k
  · cases hst
theorem k_dup2  (hStr : StrRows E SOK) (hE : EOK E) (C : Ctx E SOK mi x d) (hd : decode mi.2.1 pc = .ok (i, len)) (hchk : opChk mi.2.2.2.2.1 mi.2.2.2.2.2 pc len (.dup2) i = true) (hst : stp pN pF (eL E) (eX E) (.dup2) len pc ls st h = some (true, b, pT, pF', ls1, st1, h1)) (hc1 : h1.1.length ≤ xn x + (xR x).cells) (hc2 : tot h1.1 ≤ xt x + (xR x).slots)
    (k : J E mi x (if b = true then pT else pF') ls1 st1 h1) : J E mi x pc ls st h := by
  have hi := hchk
  unfold opChk at hi
  dsimp only at hi
  simp only [Bool.and_eq_true, beq_iff_eq] at hi
  obtain ⟨⟨-, hi⟩, rfl⟩ := hi
  have hi := beq_plain rfl hi
  subst hi
  unfold stp at hst
  dsimp only at hst
  split at hst
  · simp only [go] at hst
    cases hst
    rw [if_pos rfl] at k
    exact s_dup2 C hd rfl rfl k
  · cases hst
theorem k_goto {t : Int} (hStr : StrRows E SOK) (hE : EOK E) (C : Ctx E SOK mi x d) (hd : decode mi.2.1 pc = .ok (i, len)) (hchk : opChk mi.2.2.2.2.1 mi.2.2.2.2.2 pc len (.goto t) i = true) (hst : stp pN pF (eL E) (eX E) (.goto t) len pc ls st h = some (true, b, pT, pF', ls1, st1, h1)) (hc1 : h1.1.length ≤ xn x + (xR x).cells) (hc2 : tot h1.1 ≤ xt x + (xR x).slots)
    (k : J E mi x (if b = true then pT else pF') ls1 st1 h1) : J E mi x pc ls st h := by
  unfold stp at hst
  dsimp only at hst
  simp only [go] at hst
  cases hst
  rw [if_pos rfl] at k
  unfold opChk at hchk
  dsimp only at hchk
  split at hchk
  · simp only [Bool.and_eq_true, beq_iff_eq] at hchk
    obtain ⟨ht, rfl⟩ := hchk
    exact s_goto C hd (tgt_of ht) k
  · cases hchk
theorem k_ifCond {c : ClassFile.Cond} {t : Int} (hStr : StrRows E SOK) (hE : EOK E) (C : Ctx E SOK mi x d) (hd : decode mi.2.1 pc = .ok (i, len)) (hchk : opChk mi.2.2.2.2.1 mi.2.2.2.2.2 pc len (.ifCond c t) i = true) (hst : stp pN pF (eL E) (eX E) (.ifCond c t) len pc ls st h = some (true, b, pT, pF', ls1, st1, h1)) (hc1 : h1.1.length ≤ xn x + (xR x).cells) (hc2 : tot h1.1 ≤ xt x + (xR x).slots)
    (k : J E mi x (if b = true then pT else pF') ls1 st1 h1) : J E mi x pc ls st h := by
  unfold stp at hst
  dsimp only at hst
  split at hst
  · simp only [Option.some.injEq, Prod.mk.injEq, true_and] at hst
    obtain ⟨rfl, rfl, rfl, rfl, rfl, rfl⟩ := hst
    unfold opChk at hchk
    dsimp only at hchk
    split at hchk
    · simp only [Bool.and_eq_true, beq_iff_eq] at hchk
      obtain ⟨⟨hc, ht⟩, rfl⟩ := hchk
      have hc := beq_cond hc
      subst hc
      exact s_ifCond C hd (tgt_of ht) k
    · cases hchk
  · cases hst
theorem k_if_icmp {c : ClassFile.Cond} {t : Int} (hStr : StrRows E SOK) (hE : EOK E) (C : Ctx E SOK mi x d) (hd : decode mi.2.1 pc = .ok (i, len)) (hchk : opChk mi.2.2.2.2.1 mi.2.2.2.2.2 pc len (.if_icmp c t) i = true) (hst : stp pN pF (eL E) (eX E) (.if_icmp c t) len pc ls st h = some (true, b, pT, pF', ls1, st1, h1)) (hc1 : h1.1.length ≤ xn x + (xR x).cells) (hc2 : tot h1.1 ≤ xt x + (xR x).slots)
    (k : J E mi x (if b = true then pT else pF') ls1 st1 h1) : J E mi x pc ls st h := by
  unfold stp at hst
  dsimp only at hst
  split at hst
  · simp only [Option.some.injEq, Prod.mk.injEq, true_and] at hst
    obtain ⟨rfl, rfl, rfl, rfl, rfl, rfl⟩ := hst
    unfold opChk at hchk
    dsimp only at hchk
    split at hchk
    · simp only [Bool.and_eq_true, beq_iff_eq] at hchk
      obtain ⟨⟨hc, ht⟩, rfl⟩ := hchk
      have hc := beq_cond hc
      subst hc
      exact s_if_icmp C hd (tgt_of ht) k
    · cases hchk
  · cases hst
theorem k_tableswitch {t0 lo hi : Int} {ts : Array Int} (hStr : StrRows E SOK) (hE : EOK E) (C : Ctx E SOK mi x d) (hd : decode mi.2.1 pc = .ok (i, len)) (hchk : opChk mi.2.2.2.2.1 mi.2.2.2.2.2 pc len (.tableswitch t0 lo hi ts) i = true) (hst : stp pN pF (eL E) (eX E) (.tableswitch t0 lo hi ts) len pc ls st h = some (true, b, pT, pF', ls1, st1, h1)) (hc1 : h1.1.length ≤ xn x + (xR x).cells) (hc2 : tot h1.1 ≤ xt x + (xR x).slots)
    (k : J E mi x (if b = true then pT else pF') ls1 st1 h1) : J E mi x pc ls st h := by
  unfold stp at hst
  dsimp only at hst
  split at hst
  · simp only [go] at hst
    cases hst
    rw [if_pos rfl] at k
    unfold opChk at hchk
    dsimp only at hchk
    split at hchk
    · simp only [Bool.and_eq_true, beq_iff_eq, decide_eq_true_eq] at hchk
      obtain ⟨⟨⟨⟨⟨h0, rfl⟩, rfl⟩, h1⟩, h2⟩, h3⟩ := hchk
      exact s_table C hd h0 h1 h2 h3 k
    · cases hchk
  · cases hst
theorem k_lookupswitch {t0 : Int} {ps : Array (Int × Int)} (hStr : StrRows E SOK) (hE : EOK E) (C : Ctx E SOK mi x d) (hd : decode mi.2.1 pc = .ok (i, len)) (hchk : opChk mi.2.2.2.2.1 mi.2.2.2.2.2 pc len (.lookupswitch t0 ps) i = true) (hst : stp pN pF (eL E) (eX E) (.lookupswitch t0 ps) len pc ls st h = some (true, b, pT, pF', ls1, st1, h1)) (hc1 : h1.1.length ≤ xn x + (xR x).cells) (hc2 : tot h1.1 ≤ xt x + (xR x).slots)
    (k : J E mi x (if b = true then pT else pF') ls1 st1 h1) : J E mi x pc ls st h := by
  unfold stp at hst
  dsimp only at hst
  split at hst
  · simp only [go] at hst
    cases hst
    rw [if_pos rfl] at k
    unfold opChk at hchk
    dsimp only at hchk
    split at hchk
    · simp only [Bool.and_eq_true, beq_iff_eq] at hchk
      obtain ⟨⟨⟨h0, h1⟩, h2⟩, h3⟩ := hchk
      exact s_lookup C hd h0 h1 h2 h3 k
    · cases hchk
  · cases hst
theorem k_getfield {n : Nat} (hStr : StrRows E SOK) (hE : EOK E) (C : Ctx E SOK mi x d) (hd : decode mi.2.1 pc = .ok (i, len)) (hchk : opChk mi.2.2.2.2.1 mi.2.2.2.2.2 pc len (.getfield n) i = true) (hst : stp pN pF (eL E) (eX E) (.getfield n) len pc ls st h = some (true, b, pT, pF', ls1, st1, h1)) (hc1 : h1.1.length ≤ xn x + (xR x).cells) (hc2 : tot h1.1 ≤ xt x + (xR x).slots)
    (k : J E mi x (if b = true then pT else pF') ls1 st1 h1) : J E mi x pc ls st h := by
  unfold opChk at hchk
  dsimp only at hchk
  split at hchk
  · simp only [Bool.and_eq_true, beq_iff_eq] at hchk
    obtain ⟨hf, rfl⟩ := hchk
    unfold stp at hst
    dsimp only at hst
    split at hst
    · split at hst
      · rename_i hty
        simp only [goIf, Option.some.injEq, Prod.mk.injEq] at hst
        obtain ⟨ho, rfl, rfl, rfl, rfl, rfl, rfl⟩ := hst
        simp only [Bool.and_eq_true] at ho
        rw [if_pos rfl] at k
        refine s_getfield C hd hf ho.1 ?_ k
        unfold fV
        rw [if_pos hty]
        have hr := ho.2
        unfold rfs at hr
        split at hr
        · rename_i y hy
          rw [hy]
          unfold rfd
          rw [hy]
          rfl
        · cases hr
      · cases hst
      · rename_i hn2 hn9
        simp only [goIf, Option.some.injEq, Prod.mk.injEq] at hst
        obtain ⟨ho, rfl, rfl, rfl, rfl, rfl, rfl⟩ := hst
        rw [if_pos rfl] at k
        refine s_getfield C hd hf ho ?_ k
        unfold fV
        rw [if_neg (fun z => hn2 z)]
        rfl
    · cases hst
  · cases hchk
theorem k_putfield {n : Nat} (hStr : StrRows E SOK) (hE : EOK E) (C : Ctx E SOK mi x d) (hd : decode mi.2.1 pc = .ok (i, len)) (hchk : opChk mi.2.2.2.2.1 mi.2.2.2.2.2 pc len (.putfield n) i = true) (hst : stp pN pF (eL E) (eX E) (.putfield n) len pc ls st h = some (true, b, pT, pF', ls1, st1, h1)) (hc1 : h1.1.length ≤ xn x + (xR x).cells) (hc2 : tot h1.1 ≤ xt x + (xR x).slots)
    (k : J E mi x (if b = true then pT else pF') ls1 st1 h1) : J E mi x pc ls st h := by
  unfold opChk at hchk
  dsimp only at hchk
  split at hchk
  · simp only [Bool.and_eq_true, beq_iff_eq] at hchk
    obtain ⟨⟨hf, hfin⟩, rfl⟩ := hchk
    unfold stp at hst
    dsimp only at hst
    split at hst
    · split at hst
      · rename_i hty
        simp only [goIf, Option.some.injEq, Prod.mk.injEq] at hst
        obtain ⟨ho, rfl, rfl, rfl, rfl, rfl, rfl⟩ := hst
        rw [if_pos rfl] at k
        exact s_putI C hd hf hfin ho (Or.inl hty) k
      · rename_i hty
        simp only [goIf, Option.some.injEq, Prod.mk.injEq] at hst
        obtain ⟨ho, rfl, rfl, rfl, rfl, rfl, rfl⟩ := hst
        simp only [Bool.and_eq_true, Bool.or_eq_true, decide_eq_true_eq] at ho
        rw [if_pos rfl] at k
        exact s_putI C hd hf hfin ho.1 (Or.inr ⟨hty, ho.2⟩) k
      · cases hst
    · split at hst
      · rename_i hty
        simp only [goIf, Option.some.injEq, Prod.mk.injEq] at hst
        obtain ⟨ho, rfl, rfl, rfl, rfl, rfl, rfl⟩ := hst
        rw [if_pos rfl] at k
        exact s_putR C hd hf hfin ho hty k
      · cases hst
    · cases hst
  · cases hchk
theorem k_saload  (hStr : StrRows E SOK) (hE : EOK E) (C : Ctx E SOK mi x d) (hd : decode mi.2.1 pc = .ok (i, len)) (hchk : opChk mi.2.2.2.2.1 mi.2.2.2.2.2 pc len (.saload) i = true) (hst : stp pN pF (eL E) (eX E) (.saload) len pc ls st h = some (true, b, pT, pF', ls1, st1, h1)) (hc1 : h1.1.length ≤ xn x + (xR x).cells) (hc2 : tot h1.1 ≤ xt x + (xR x).slots)
    (k : J E mi x (if b = true then pT else pF') ls1 st1 h1) : J E mi x pc ls st h := by
  unfold opChk at hchk
  dsimp only at hchk
  split at hchk
  · simp only [beq_iff_eq] at hchk
    subst hchk
    unfold stp at hst
    dsimp only at hst
    split at hst
    · simp only [goIf, Option.some.injEq, Prod.mk.injEq] at hst
      obtain ⟨ho, rfl, rfl, rfl, rfl, rfl, rfl⟩ := hst
      simp only [Bool.and_eq_true, decide_eq_true_eq] at ho
      obtain ⟨rfl, ho⟩ := ho
      rw [if_pos rfl] at k
      exact s_script C hd ho hE.1 hE.2 k
    · cases hst
  · cases hchk
theorem k_sastore  (hStr : StrRows E SOK) (hE : EOK E) (C : Ctx E SOK mi x d) (hd : decode mi.2.1 pc = .ok (i, len)) (hchk : opChk mi.2.2.2.2.1 mi.2.2.2.2.2 pc len (.sastore) i = true) (hst : stp pN pF (eL E) (eX E) (.sastore) len pc ls st h = some (true, b, pT, pF', ls1, st1, h1)) (hc1 : h1.1.length ≤ xn x + (xR x).cells) (hc2 : tot h1.1 ≤ xt x + (xR x).slots)
    (k : J E mi x (if b = true then pT else pF') ls1 st1 h1) : J E mi x pc ls st h := by
  unfold opChk at hchk
  dsimp only at hchk
  split at hchk
  · simp only [beq_iff_eq] at hchk
    subst hchk
    unfold stp at hst
    dsimp only at hst
    split at hst
    · simp only [goIf, Option.some.injEq, Prod.mk.injEq] at hst
      obtain ⟨ho, rfl, rfl, rfl, rfl, rfl, rfl⟩ := hst
      simp only [decide_eq_true_eq] at ho
      subst ho
      rw [if_pos rfl] at k
      exact s_scriptLen C hd hE.1 hE.2 k
    · cases hst
  · cases hchk
theorem k_new {n : Nat} (hStr : StrRows E SOK) (hE : EOK E) (C : Ctx E SOK mi x d) (hd : decode mi.2.1 pc = .ok (i, len)) (hchk : opChk mi.2.2.2.2.1 mi.2.2.2.2.2 pc len (.new n) i = true) (hst : stp pN pF (eL E) (eX E) (.new n) len pc ls st h = some (true, b, pT, pF', ls1, st1, h1)) (hc1 : h1.1.length ≤ xn x + (xR x).cells) (hc2 : tot h1.1 ≤ xt x + (xR x).slots)
    (k : J E mi x (if b = true then pT else pF') ls1 st1 h1) : J E mi x pc ls st h := by
  unfold opChk at hchk
  dsimp only at hchk
  split at hchk
  · simp only [Bool.and_eq_true, beq_iff_eq] at hchk
    obtain ⟨hf, rfl⟩ := hchk
    unfold stp at hst
    dsimp only at hst
    split at hst
    · rename_i m hm
      simp only [goIf, Option.some.injEq, Prod.mk.injEq] at hst
      obtain ⟨ho, rfl, rfl, rfl, rfl, rfl, rfl⟩ := hst
      simp only [decide_eq_true_eq] at ho
      rw [if_pos rfl] at k
      rw [tot_push] at hc2
      simp only [List.length_append, List.length_singleton] at hc1
      exact s_new C hd hf hm ho hc1 hc2 k
    · cases hst
  · cases hchk
theorem k_newarray {n : ArrayType} (hStr : StrRows E SOK) (hE : EOK E) (C : Ctx E SOK mi x d) (hd : decode mi.2.1 pc = .ok (i, len)) (hchk : opChk mi.2.2.2.2.1 mi.2.2.2.2.2 pc len (.newarray n) i = true) (hst : stp pN pF (eL E) (eX E) (.newarray n) len pc ls st h = some (true, b, pT, pF', ls1, st1, h1)) (hc1 : h1.1.length ≤ xn x + (xR x).cells) (hc2 : tot h1.1 ≤ xt x + (xR x).slots)
    (k : J E mi x (if b = true then pT else pF') ls1 st1 h1) : J E mi x pc ls st h := by
  unfold opChk at hchk
  dsimp only at hchk
  split at hchk
  · simp only [beq_iff_eq] at hchk
    subst hchk
    unfold stp at hst
    dsimp only at hst
    split at hst
    · simp only [goIf, Option.some.injEq, Prod.mk.injEq] at hst
      obtain ⟨ho, rfl, rfl, rfl, rfl, rfl, rfl⟩ := hst
      simp only [Bool.and_eq_true, Bool.not_eq_true', decide_eq_false_iff_not, decide_eq_true_eq] at ho
      rw [if_pos rfl] at k
      rw [tot_push] at hc2
      simp only [List.length_append, List.length_singleton] at hc1
      exact s_newarray C hd ho.1.1 ho.1.2 ho.2 hc1 hc2 k
    · cases hst
  · cases hchk
theorem k_anewarray {n : Nat} (hStr : StrRows E SOK) (hE : EOK E) (C : Ctx E SOK mi x d) (hd : decode mi.2.1 pc = .ok (i, len)) (hchk : opChk mi.2.2.2.2.1 mi.2.2.2.2.2 pc len (.anewarray n) i = true) (hst : stp pN pF (eL E) (eX E) (.anewarray n) len pc ls st h = some (true, b, pT, pF', ls1, st1, h1)) (hc1 : h1.1.length ≤ xn x + (xR x).cells) (hc2 : tot h1.1 ≤ xt x + (xR x).slots)
    (k : J E mi x (if b = true then pT else pF') ls1 st1 h1) : J E mi x pc ls st h := by
  unfold opChk at hchk
  dsimp only at hchk
  split at hchk
  · simp only [Bool.and_eq_true, beq_iff_eq] at hchk
    obtain ⟨hf, rfl⟩ := hchk
    unfold stp at hst
    dsimp only at hst
    split at hst
    · simp only [goIf, Option.some.injEq, Prod.mk.injEq] at hst
      obtain ⟨ho, rfl, rfl, rfl, rfl, rfl, rfl⟩ := hst
      simp only [Bool.and_eq_true, Bool.not_eq_true', decide_eq_false_iff_not, decide_eq_true_eq] at ho
      rw [if_pos rfl] at k
      rw [tot_push] at hc2
      simp only [List.length_append, List.length_singleton] at hc1
      exact s_anewarray C hd hf ho.1.1 ho.1.2 ho.2 hc1 hc2 k
    · cases hst
  · cases hchk
theorem stp_b0 {N : List Nat} {F : List (List Nat)} {L : Nat} {X : Nat → Int32} {len pc : Nat} {ls st : List Value} {h : PH} : stp N F L X (.invokedynamic 0) len pc ls st h = (match st with
    | .ref _ :: st => goIf (low st) (pc + len) ls st h
    | _ => none) := rfl
theorem stp_b1 {N : List Nat} {F : List (List Nat)} {L : Nat} {X : Nat → Int32} {len pc : Nat} {ls st : List Value} {h : PH} : stp N F L X (.invokedynamic 1) len pc ls st h = (match st with
    | .int n :: .int dp :: .ref b :: .int sp :: .ref a :: st => goIf (low st && isArr h.1 a && isArr h.1 b && !(decide (sp < 0)) && !(decide (dp < 0)) && !(decide (n < 0)) && decide (sp.toNatClampNeg + n.toNatClampNeg ≤ siz h.1 a) && decide (dp.toNatClampNeg + n.toNatClampNeg ≤ siz h.1 b)) (pc + len) ls st (h.1, h.2.1, bup h.2.2 b (cpyI (h.2.2 a) (h.2.2 b) sp.toNatClampNeg dp.toNatClampNeg n.toNatClampNeg))
    | _ => none) := rfl
theorem stp_b2 {N : List Nat} {F : List (List Nat)} {L : Nat} {X : Nat → Int32} {len pc : Nat} {ls st : List Value} {h : PH} : stp N F L X (.invokedynamic 2) len pc ls st h = (match st with
    | .int y :: .int x :: st => goIf (low st) (pc + len) ls (.int (if y < x then y else x) :: st) h
    | _ => none) := rfl
theorem stp_b3 {N : List Nat} {F : List (List Nat)} {L : Nat} {X : Nat → Int32} {len pc : Nat} {ls st : List Value} {h : PH} : stp N F L X (.invokedynamic 3) len pc ls st h = (match st with
    | .int y :: .int x :: st => goIf (low st) (pc + len) ls (.int (if x < y then y else x) :: st) h
    | _ => none) := rfl
theorem stp_b4 {N : List Nat} {F : List (List Nat)} {L : Nat} {X : Nat → Int32} {len pc : Nat} {ls st : List Value} {h : PH} : stp N F L X (.invokedynamic 4) len pc ls st h = (match st with
    | .long y :: .long x :: st => goIf (low st) (pc + len) ls (.long (if y < x then x else y) :: st) h
    | _ => none) := rfl
theorem stp_b5 {N : List Nat} {F : List (List Nat)} {L : Nat} {X : Nat → Int32} {len pc : Nat} {ls st : List Value} {h : PH} : stp N F L X (.invokedynamic 5) len pc ls st h = (match st with
    | .ref a :: st => goIf (low st && decide (a = 1000001)) (pc + len) ls (.int (Int32.ofNat kwB.length) :: st) h
    | _ => none) := rfl
theorem stp_b6 {N : List Nat} {F : List (List Nat)} {L : Nat} {X : Nat → Int32} {len pc : Nat} {ls st : List Value} {h : PH} : stp N F L X (.invokedynamic 6) len pc ls st h = (match st with
    | .int i :: .ref a :: st => goIf (low st && decide (a = 1000001) && inR i kwB.length) (pc + len) ls (.int (kwC i.toNatClampNeg) :: st) h
    | _ => none) := rfl
theorem stp_b7 {N : List Nat} {F : List (List Nat)} {L : Nat} {X : Nat → Int32} {len pc : Nat} {ls st : List Value} {h : PH} : stp N F L X (.invokedynamic 7) len pc ls st h = (match st with
    | .int y :: .int x :: st => goIf (low st && !(decide (y = 0))) (pc + len) ls (.int (fmJ x y) :: st) h
    | _ => none) := rfl
theorem k_b0  (hStr : StrRows E SOK) (hE : EOK E) (C : Ctx E SOK mi x d) (hd : decode mi.2.1 pc = .ok (i, len)) (hchk : opChk mi.2.2.2.2.1 mi.2.2.2.2.2 pc len (.invokedynamic 0) i = true) (hst : stp pN pF (eL E) (eX E) (.invokedynamic 0) len pc ls st h = some (true, b, pT, pF', ls1, st1, h1)) (hc1 : h1.1.length ≤ xn x + (xR x).cells) (hc2 : tot h1.1 ≤ xt x + (xR x).slots)
    (k : J E mi x (if b = true then pT else pF') ls1 st1 h1) : J E mi x pc ls st h := by
  rw [stp_b0] at hst
  split at hst
  · simp only [goIf, low, Option.some.injEq, Prod.mk.injEq] at hst
    obtain ⟨ho, rfl, rfl, rfl, rfl, rfl, rfl⟩ := hst
    simp only [Bool.and_eq_true, Bool.not_eq_true', decide_eq_false_iff_not, decide_eq_true_eq] at ho
    rw [if_pos rfl] at k
    unfold opChk at hchk
    dsimp only at hchk
    split at hchk
    · simp only [Bool.and_eq_true, Bool.or_eq_true, beq_iff_eq, decide_eq_true_eq] at hchk
      obtain ⟨⟨-, hf⟩, rfl⟩ := hchk
      exact s_objinit C hd hf ho k
    · simp only [Bool.and_eq_true, Bool.or_eq_true, beq_iff_eq, decide_eq_true_eq] at hchk
      exact absurd hchk.1.1 (by omega)
    · simp only [Bool.and_eq_true, Bool.or_eq_true, beq_iff_eq, decide_eq_true_eq] at hchk
      exact absurd hchk.1.1 (by omega)
    · cases hchk
  · cases hst
theorem k_b1  (hStr : StrRows E SOK) (hE : EOK E) (C : Ctx E SOK mi x d) (hd : decode mi.2.1 pc = .ok (i, len)) (hchk : opChk mi.2.2.2.2.1 mi.2.2.2.2.2 pc len (.invokedynamic 1) i = true) (hst : stp pN pF (eL E) (eX E) (.invokedynamic 1) len pc ls st h = some (true, b, pT, pF', ls1, st1, h1)) (hc1 : h1.1.length ≤ xn x + (xR x).cells) (hc2 : tot h1.1 ≤ xt x + (xR x).slots)
    (k : J E mi x (if b = true then pT else pF') ls1 st1 h1) : J E mi x pc ls st h := by
  rw [stp_b1] at hst
  split at hst
  · simp only [goIf, low, Option.some.injEq, Prod.mk.injEq] at hst
    obtain ⟨ho, rfl, rfl, rfl, rfl, rfl, rfl⟩ := hst
    simp only [Bool.and_eq_true, Bool.not_eq_true', decide_eq_false_iff_not, decide_eq_true_eq] at ho
    rw [if_pos rfl] at k
    unfold opChk at hchk
    dsimp only at hchk
    split at hchk
    · simp only [Bool.and_eq_true, Bool.or_eq_true, beq_iff_eq, decide_eq_true_eq] at hchk
      exact absurd hchk.1.1 (by omega)
    · simp only [Bool.and_eq_true, Bool.or_eq_true, beq_iff_eq, decide_eq_true_eq] at hchk
      obtain ⟨⟨-, hf⟩, rfl⟩ := hchk
      exact s_copy C hd hf ho.1.1.1.1.1.1.1 ho.1.1.1.1.1.1.2 ho.1.1.1.1.1.2 ho.1.1.1.1.2 ho.1.1.1.2 ho.1.1.2 ho.1.2 ho.2 k
    · simp only [Bool.and_eq_true, Bool.or_eq_true, beq_iff_eq, decide_eq_true_eq] at hchk
      exact absurd hchk.1.1 (by omega)
    · cases hchk
  · cases hst
theorem k_b2  (hStr : StrRows E SOK) (hE : EOK E) (C : Ctx E SOK mi x d) (hd : decode mi.2.1 pc = .ok (i, len)) (hchk : opChk mi.2.2.2.2.1 mi.2.2.2.2.2 pc len (.invokedynamic 2) i = true) (hst : stp pN pF (eL E) (eX E) (.invokedynamic 2) len pc ls st h = some (true, b, pT, pF', ls1, st1, h1)) (hc1 : h1.1.length ≤ xn x + (xR x).cells) (hc2 : tot h1.1 ≤ xt x + (xR x).slots)
    (k : J E mi x (if b = true then pT else pF') ls1 st1 h1) : J E mi x pc ls st h := by
  rw [stp_b2] at hst
  split at hst
  · simp only [goIf, low, Option.some.injEq, Prod.mk.injEq] at hst
    obtain ⟨ho, rfl, rfl, rfl, rfl, rfl, rfl⟩ := hst
    simp only [Bool.and_eq_true, Bool.not_eq_true', decide_eq_false_iff_not, decide_eq_true_eq] at ho
    rw [if_pos rfl] at k
    unfold opChk at hchk
    dsimp only at hchk
    split at hchk
    · simp only [Bool.and_eq_true, Bool.or_eq_true, beq_iff_eq, decide_eq_true_eq] at hchk
      exact absurd hchk.1.1 (by omega)
    · simp only [Bool.and_eq_true, Bool.or_eq_true, beq_iff_eq, decide_eq_true_eq] at hchk
      obtain ⟨⟨-, hf⟩, rfl⟩ := hchk
      exact s_min C hd hf ho k
    · simp only [Bool.and_eq_true, Bool.or_eq_true, beq_iff_eq, decide_eq_true_eq] at hchk
      exact absurd hchk.1.1 (by omega)
    · cases hchk
  · cases hst
theorem k_b3  (hStr : StrRows E SOK) (hE : EOK E) (C : Ctx E SOK mi x d) (hd : decode mi.2.1 pc = .ok (i, len)) (hchk : opChk mi.2.2.2.2.1 mi.2.2.2.2.2 pc len (.invokedynamic 3) i = true) (hst : stp pN pF (eL E) (eX E) (.invokedynamic 3) len pc ls st h = some (true, b, pT, pF', ls1, st1, h1)) (hc1 : h1.1.length ≤ xn x + (xR x).cells) (hc2 : tot h1.1 ≤ xt x + (xR x).slots)
    (k : J E mi x (if b = true then pT else pF') ls1 st1 h1) : J E mi x pc ls st h := by
  rw [stp_b3] at hst
  split at hst
  · simp only [goIf, low, Option.some.injEq, Prod.mk.injEq] at hst
    obtain ⟨ho, rfl, rfl, rfl, rfl, rfl, rfl⟩ := hst
    simp only [Bool.and_eq_true, Bool.not_eq_true', decide_eq_false_iff_not, decide_eq_true_eq] at ho
    rw [if_pos rfl] at k
    unfold opChk at hchk
    dsimp only at hchk
    split at hchk
    · simp only [Bool.and_eq_true, Bool.or_eq_true, beq_iff_eq, decide_eq_true_eq] at hchk
      exact absurd hchk.1.1 (by omega)
    · simp only [Bool.and_eq_true, Bool.or_eq_true, beq_iff_eq, decide_eq_true_eq] at hchk
      obtain ⟨⟨-, hf⟩, rfl⟩ := hchk
      exact s_max C hd hf ho k
    · simp only [Bool.and_eq_true, Bool.or_eq_true, beq_iff_eq, decide_eq_true_eq] at hchk
      exact absurd hchk.1.1 (by omega)
    · cases hchk
  · cases hst
theorem k_b4  (hStr : StrRows E SOK) (hE : EOK E) (C : Ctx E SOK mi x d) (hd : decode mi.2.1 pc = .ok (i, len)) (hchk : opChk mi.2.2.2.2.1 mi.2.2.2.2.2 pc len (.invokedynamic 4) i = true) (hst : stp pN pF (eL E) (eX E) (.invokedynamic 4) len pc ls st h = some (true, b, pT, pF', ls1, st1, h1)) (hc1 : h1.1.length ≤ xn x + (xR x).cells) (hc2 : tot h1.1 ≤ xt x + (xR x).slots)
    (k : J E mi x (if b = true then pT else pF') ls1 st1 h1) : J E mi x pc ls st h := by
  rw [stp_b4] at hst
  split at hst
  · simp only [goIf, low, Option.some.injEq, Prod.mk.injEq] at hst
    obtain ⟨ho, rfl, rfl, rfl, rfl, rfl, rfl⟩ := hst
    simp only [Bool.and_eq_true, Bool.not_eq_true', decide_eq_false_iff_not, decide_eq_true_eq] at ho
    rw [if_pos rfl] at k
    unfold opChk at hchk
    dsimp only at hchk
    split at hchk
    · simp only [Bool.and_eq_true, Bool.or_eq_true, beq_iff_eq, decide_eq_true_eq] at hchk
      exact absurd hchk.1.1 (by omega)
    · simp only [Bool.and_eq_true, Bool.or_eq_true, beq_iff_eq, decide_eq_true_eq] at hchk
      obtain ⟨⟨-, hf⟩, rfl⟩ := hchk
      exact s_maxl C hd hf ho k
    · simp only [Bool.and_eq_true, Bool.or_eq_true, beq_iff_eq, decide_eq_true_eq] at hchk
      exact absurd hchk.1.1 (by omega)
    · cases hchk
  · cases hst
theorem k_b5  (hStr : StrRows E SOK) (hE : EOK E) (C : Ctx E SOK mi x d) (hd : decode mi.2.1 pc = .ok (i, len)) (hchk : opChk mi.2.2.2.2.1 mi.2.2.2.2.2 pc len (.invokedynamic 5) i = true) (hst : stp pN pF (eL E) (eX E) (.invokedynamic 5) len pc ls st h = some (true, b, pT, pF', ls1, st1, h1)) (hc1 : h1.1.length ≤ xn x + (xR x).cells) (hc2 : tot h1.1 ≤ xt x + (xR x).slots)
    (k : J E mi x (if b = true then pT else pF') ls1 st1 h1) : J E mi x pc ls st h := by
  rw [stp_b5] at hst
  split at hst
  · simp only [goIf, low, Option.some.injEq, Prod.mk.injEq] at hst
    obtain ⟨ho, rfl, rfl, rfl, rfl, rfl, rfl⟩ := hst
    simp only [Bool.and_eq_true, Bool.not_eq_true', decide_eq_false_iff_not, decide_eq_true_eq] at ho
    rw [if_pos rfl] at k
    unfold opChk at hchk
    dsimp only at hchk
    split at hchk
    · simp only [Bool.and_eq_true, Bool.or_eq_true, beq_iff_eq, decide_eq_true_eq] at hchk
      exact absurd hchk.1.1 (by omega)
    · simp only [Bool.and_eq_true, Bool.or_eq_true, beq_iff_eq, decide_eq_true_eq] at hchk
      exact absurd hchk.1.1 (by omega)
    · simp only [Bool.and_eq_true, Bool.or_eq_true, beq_iff_eq, decide_eq_true_eq] at hchk
      obtain ⟨⟨-, hf⟩, rfl⟩ := hchk
      obtain ⟨hlow, rfl⟩ := ho
      exact (hStr mi x d pc _ _ _ C).2.1 _ hd hf hlow k
    · cases hchk
  · cases hst
theorem k_b6  (hStr : StrRows E SOK) (hE : EOK E) (C : Ctx E SOK mi x d) (hd : decode mi.2.1 pc = .ok (i, len)) (hchk : opChk mi.2.2.2.2.1 mi.2.2.2.2.2 pc len (.invokedynamic 6) i = true) (hst : stp pN pF (eL E) (eX E) (.invokedynamic 6) len pc ls st h = some (true, b, pT, pF', ls1, st1, h1)) (hc1 : h1.1.length ≤ xn x + (xR x).cells) (hc2 : tot h1.1 ≤ xt x + (xR x).slots)
    (k : J E mi x (if b = true then pT else pF') ls1 st1 h1) : J E mi x pc ls st h := by
  rw [stp_b6] at hst
  split at hst
  · simp only [goIf, low, Option.some.injEq, Prod.mk.injEq] at hst
    obtain ⟨ho, rfl, rfl, rfl, rfl, rfl, rfl⟩ := hst
    simp only [Bool.and_eq_true, Bool.not_eq_true', decide_eq_false_iff_not, decide_eq_true_eq] at ho
    rw [if_pos rfl] at k
    unfold opChk at hchk
    dsimp only at hchk
    split at hchk
    · simp only [Bool.and_eq_true, Bool.or_eq_true, beq_iff_eq, decide_eq_true_eq] at hchk
      exact absurd hchk.1.1 (by omega)
    · simp only [Bool.and_eq_true, Bool.or_eq_true, beq_iff_eq, decide_eq_true_eq] at hchk
      exact absurd hchk.1.1 (by omega)
    · simp only [Bool.and_eq_true, Bool.or_eq_true, beq_iff_eq, decide_eq_true_eq] at hchk
      obtain ⟨⟨-, hf⟩, rfl⟩ := hchk
      obtain ⟨⟨hlow, rfl⟩, hin⟩ := ho
      exact (hStr mi x d pc _ _ _ C).2.2 _ _ hd hf hlow hin k
    · cases hchk
  · cases hst
theorem k_b7  (hStr : StrRows E SOK) (hE : EOK E) (C : Ctx E SOK mi x d) (hd : decode mi.2.1 pc = .ok (i, len)) (hchk : opChk mi.2.2.2.2.1 mi.2.2.2.2.2 pc len (.invokedynamic 7) i = true) (hst : stp pN pF (eL E) (eX E) (.invokedynamic 7) len pc ls st h = some (true, b, pT, pF', ls1, st1, h1)) (hc1 : h1.1.length ≤ xn x + (xR x).cells) (hc2 : tot h1.1 ≤ xt x + (xR x).slots)
    (k : J E mi x (if b = true then pT else pF') ls1 st1 h1) : J E mi x pc ls st h := by
  rw [stp_b7] at hst
  split at hst
  · simp only [goIf, low, Option.some.injEq, Prod.mk.injEq] at hst
    obtain ⟨ho, rfl, rfl, rfl, rfl, rfl, rfl⟩ := hst
    simp only [Bool.and_eq_true, Bool.not_eq_true', decide_eq_false_iff_not, decide_eq_true_eq] at ho
    rw [if_pos rfl] at k
    unfold opChk at hchk
    dsimp only at hchk
    split at hchk
    · simp only [Bool.and_eq_true, Bool.or_eq_true, beq_iff_eq, decide_eq_true_eq] at hchk
      exact absurd hchk.1.1 (by omega)
    · simp only [Bool.and_eq_true, Bool.or_eq_true, beq_iff_eq, decide_eq_true_eq] at hchk
      obtain ⟨⟨-, hf⟩, rfl⟩ := hchk
      exact s_fm C hd hf ho.1 ho.2 k
    · simp only [Bool.and_eq_true, Bool.or_eq_true, beq_iff_eq, decide_eq_true_eq] at hchk
      exact absurd hchk.1.1 (by omega)
    · cases hchk
  · cases hst
end SIMS
