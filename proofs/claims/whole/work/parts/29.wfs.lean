/-! what code is read as holds of the machine -/
section WF2
variable {L : Nat} {X : Nat → Int32}
noncomputable def HH (I : MI) : PH := (shT, rf0, I)
def vs (l : TL) : List Value := l.map Prod.snd
def At (L : Nat) (X : Nat → Int32) (d z pc : Nat) (ls st : TL) (I : MI) (o : Option Value × PH) : Prop := Seg L X d z pc (vs ls) (vs st) (HH I) o
def tyV (e : Nat × Value) : Prop := match e.2 with
  | .ref a => okB e.1 a = true
  | _ => True
def Ty : TL → Prop
  | [] => True
  | e :: r => tyV e ∧ Ty r
def tyO (v : Option (Nat × Value)) : Prop := match v with
  | some e => tyV e
  | none => True
def Unm (mods : List Nat) (ls0 ls : TL) : Prop := ls.length = ls0.length ∧ ∀ i, memN i mods = false → nth ls i = nth ls0 i
def Snd (L : Nat) (X : Nat → Int32) (d q na : Nat) (c : CSem) : Prop := ∃ mq : MR, pT[q]? = some mq ∧ mq.2.1 = na ∧ ∀ (β : Type) (args : TL) (k : Option (Nat × Value) → M β) (I : MI) (r : β × MI), Ty args → args.length = na → c β args k I = some r → recvOK mq.2.2.2.2 (vs args) shT = true ∧ fitL (vs args) mq.2.2.1 = true ∧ ∃ (ov : Option (Nat × Value)) (I1 : MI), tyO ov ∧ Seg L X d q 0 (locE (vs args) mq.2.2.1) [] (HH I) (ov.map Prod.snd, HH I1) ∧ k ov I1 = some r
def AllS (L : Nat) (X : Nat → Int32) (d : Nat) : List (Nat × Nat × CSem) → Prop
  | [] => True
  | e :: r => Snd L X d e.1 e.2.1 e.2.2 ∧ AllS L X d r
theorem allS_find {d q na : Nat} {c : CSem} : ∀ {cs : List (Nat × Nat × CSem)}, AllS L X d cs → cfind cs q = some (na, c) → Snd L X d q na c := by
  intro cs
  induction cs with
  | nil => intro _ h; cases h
  | cons e r ih =>
    intro ha h
    unfold cfind at h
    split at h
    · rename_i hb
      have e1 := Nat.eq_of_beq_eq_true hb
      have e2 : e.2 = (na, c) := Option.some.inj h
      rw [← e1]
      have h1 := ha.1
      rw [e2] at h1
      exact h1
    · exact ih ha.2 h
theorem bn_some {α β : Type} {m : M α} {f : α → M β} {I : MI} {r : β × MI} (h : bn m f I = some r) : ∃ x I1, m I = some (x, I1) ∧ f x I1 = some r := by
  unfold bn at h
  split at h
  · rename_i x I1 e; exact ⟨x, I1, e, h⟩
  · cases h
theorem mB_ok {β : Type} {b : Bool} {k : M β} {I : MI} {r : β × MI} (h : mB b k I = some r) : b = true ∧ k I = some r := by
  cases b with
  | true => exact ⟨rfl, h⟩
  | false => cases h
theorem dvI_ok {β : Type} {y : Int32} {k : M β} {I : MI} {r : β × MI} (h : dvI y k I = some r) : ¬ y = 0 ∧ k I = some r := by
  unfold dvI at h
  by_cases hy : y = 0
  · rw [if_pos hy] at h; cases h
  · rw [if_neg hy] at h; exact ⟨hy, h⟩
theorem dvJ_ok {β : Type} {y : Int64} {k : M β} {I : MI} {r : β × MI} (h : dvJ y k I = some r) : ¬ y = 0 ∧ k I = some r := by
  unfold dvJ at h
  by_cases hy : y = 0
  · rw [if_pos hy] at h; cases h
  · rw [if_neg hy] at h; exact ⟨hy, h⟩
theorem oB_ok {α : Type _} {β : Type} {q : Option α} {k : α → M β} {I : MI} {r : β × MI} (h : oB q k I = some r) : ∃ x, q = some x ∧ k x I = some r := by
  cases q with
  | some x => exact ⟨x, rfl, h⟩
  | none => cases h
theorem gd_ok {b : Bool} {I : MI} {r : Unit × MI} (h : gd b I = some r) : b = true ∧ r = ((), I) := by
  cases b with
  | true => cases h; exact ⟨rfl, rfl⟩
  | false => cases h
theorem gA_ok {β : Type} {ls : TL} {i : Nat} {k : Nat → Nat → M β} {I : MI} {r : β × MI} (h : gA ls i k I = some r) : ∃ t a, nth ls i = some (t, .ref a) ∧ k t a I = some r := by
  unfold gA at h
  generalize hn : nth ls i = q at h
  split at h
  · rename_i t a; exact ⟨t, a, rfl, h⟩
  · cases h
theorem gI_ok {β : Type} {ls : TL} {i : Nat} {k : Int32 → M β} {I : MI} {r : β × MI} (h : gI ls i k I = some r) : ∃ x, (∃ t, nth ls i = some (t, .int x)) ∧ k x I = some r := by
  unfold gI at h
  generalize hn : nth ls i = q at h
  split at h
  · rename_i t x; exact ⟨x, ⟨t, rfl⟩, h⟩
  · cases h
theorem gJ_ok {β : Type} {ls : TL} {i : Nat} {k : Int64 → M β} {I : MI} {r : β × MI} (h : gJ ls i k I = some r) : ∃ x, (∃ t, nth ls i = some (t, .long x)) ∧ k x I = some r := by
  unfold gJ at h
  generalize hn : nth ls i = q at h
  split at h
  · rename_i t x; exact ⟨x, ⟨t, rfl⟩, h⟩
  · cases h
theorem memN_iff {x : Nat} : ∀ {l : List Nat}, memN x l = true ↔ x ∈ l := by
  intro l
  induction l with
  | nil => simp [memN]
  | cons c r ih =>
    unfold memN
    cases hb : Nat.beq x c with
    | true => simp [Nat.eq_of_beq_eq_true hb]
    | false =>
      have hne : x ≠ c := Nat.ne_of_beq_eq_false hb
      simp only [List.mem_cons, hne, false_or]
      exact ih
theorem look_W : ∀ (T : List (Nat × Instr × Nat)) (pc : Nat), lookW T pc = look T pc := by
  intro T pc
  induction T with
  | nil => rfl
  | cons e r ih =>
    unfold lookW look
    cases hb : Nat.beq e.1 pc with
    | true => rw [if_pos (Nat.eq_of_beq_eq_true hb)]
    | false => rw [if_neg (Nat.ne_of_beq_eq_false hb)]; exact ih
theorem nth_eq {α : Type} : ∀ (l : List α) (i : Nat), nth l i = l[i]? := by
  intro l
  induction l with
  | nil => intro i; rfl
  | cons a r ih =>
    intro i
    cases i with
    | zero => rfl
    | succ i => exact (ih i).trans (by simp)
theorem setL_eq {α : Type} : ∀ (l : List α) (i : Nat) (x : α), setL l i x = l.set i x := by
  intro l
  induction l with
  | nil => intro i x; rfl
  | cons a r ih =>
    intro i x
    cases i with
    | zero => rfl
    | succ i => show a :: setL r i x = a :: r.set i x; rw [ih]
theorem nth_vs {l : TL} {i t : Nat} {v : Value} (h : nth l i = some (t, v)) : (vs l)[i]? = some v := by
  rw [nth_eq] at h
  unfold vs
  rw [List.getElem?_map, h]
  rfl
theorem vs_set (l : TL) (i : Nat) (e : Nat × Value) : vs (setL l i e) = (vs l).set i e.2 := by
  rw [setL_eq]
  unfold vs
  rw [List.map_set]
theorem ty_nth : ∀ {l : TL} {i : Nat} {e : Nat × Value}, Ty l → nth l i = some e → tyV e := by
  intro l
  induction l with
  | nil => intro i e _ h; cases h
  | cons a r ih =>
    intro i e ht h
    cases i with
    | zero => cases h; exact ht.1
    | succ i => exact ih ht.2 h
theorem ty_set : ∀ {l : TL} {i : Nat} {e : Nat × Value}, Ty l → tyV e → Ty (setL l i e) := by
  intro l
  induction l with
  | nil => intro i e _ _; exact trivial
  | cons a r ih =>
    intro i e ht h
    cases i with
    | zero => exact ⟨h, ht.2⟩
    | succ i => exact ⟨ht.1, ih ht.2 h⟩
theorem ty_drop : ∀ {n : Nat} {l : TL}, Ty l → Ty (l.drop n) := by
  intro n
  induction n with
  | zero => intro l h; exact h
  | succ n ih =>
    intro l h
    cases l with
    | nil => exact h
    | cons a r => exact ih h.2
theorem ty_app : ∀ {l r : TL}, Ty l → Ty r → Ty (l ++ r) := by
  intro l
  induction l with
  | nil => intro r _ h; exact h
  | cons a l ih => intro r h h2; exact ⟨h.1, ih h.2 h2⟩
theorem ty_take : ∀ {n : Nat} {l : TL}, Ty l → Ty (l.take n) := by
  intro n
  induction n with
  | zero => intro l h; exact trivial
  | succ n ih =>
    intro l h
    cases l with
    | nil => exact h
    | cons a r => exact ⟨h.1, ih h.2⟩
theorem ty_rev : ∀ {l : TL}, Ty l → Ty l.reverse := by
  intro l
  induction l with
  | nil => intro h; exact h
  | cons a r ih =>
    intro h
    rw [List.reverse_cons]
    exact ty_app (ih h.2) ⟨h.1, trivial⟩
theorem cat_sum : ∀ (l : TL), ((vs l).map catV).sum = catW l := by
  intro l
  induction l with
  | nil => rfl
  | cons a r ih => show catV a.2 + ((vs r).map catV).sum = catV a.2 + catW r; rw [ih]
theorem low_W (l : TL) : low (vs l) = lowW l := by
  unfold low lowW
  rw [cat_sum]
  by_cases h : catW l ≤ 8
  · rw [decide_eq_true h]; exact (Nat.ble_eq_true_of_le h).symm
  · rw [decide_eq_false h]
    cases hb : Nat.ble (catW l) 8 with
    | false => rfl
    | true => exact absurd (Nat.le_of_ble_eq_true hb) h
theorem unm_set {mods : List Nat} {ls0 ls : TL} {i : Nat} {e : Nat × Value} (h : Unm mods ls0 ls) (hi : memN i mods = true) : Unm mods ls0 (setL ls i e) := by
  refine ⟨by rw [setL_eq, List.length_set]; exact h.1, fun j hj => ?_⟩
  rw [setL_eq, nth_eq, List.getElem?_set_ne (by intro e2; rw [e2, hj] at hi; cases hi), ← nth_eq]
  exact h.2 j hj
theorem wsv_ok {β : Type} {mods : List Nat} {ls0 ls : TL} {i : Nat} {v : Nat × Value} {k : TL → M β} {I : MI} {r : β × MI} (h : wsv mods ls i v k I = some r) (hu : Unm mods ls0 ls) (ht : Ty ls) (hv : tyV v) : st1 (vs ls) i v.2 = some (vs (setL ls i v)) ∧ k (setL ls i v) I = some r ∧ Ty (setL ls i v) ∧ Unm mods ls0 (setL ls i v) := by
  unfold wsv at h
  obtain ⟨hc, h⟩ := mB_ok h
  simp only [Bool.and_eq_true, decide_eq_true_eq] at hc
  obtain ⟨⟨h1, h2⟩, h3⟩ := hc
  refine ⟨?_, h, ty_set ht hv, unm_set hu h1⟩
  unfold st1
  rw [if_pos, vs_set]
  simp only [Bool.and_eq_true, decide_eq_true_eq]
  exact ⟨by unfold vs; rw [List.length_map]; exact h2, h3⟩
theorem wbr_ok {β : Type} {c : ClassFile.Cond} {x y : Int32} {a b : M β} {I : MI} {r : Option (β × MI)} (h : wbr c x y a b I = r) : (icond c x y = true ∧ a I = r) ∨ (icond c x y = false ∧ b I = r) := by
  cases c <;> simp only [wbr] at h <;> split at h <;> rename_i hc
  · exact Or.inl ⟨by simp [icond, hc], h⟩
  · exact Or.inr ⟨by simp [icond, hc], h⟩
  · exact Or.inr ⟨by simp [icond, hc], h⟩
  · exact Or.inl ⟨by simp [icond, hc], h⟩
  · exact Or.inl ⟨by simp [icond, hc], h⟩
  · exact Or.inr ⟨by simp [icond, hc], h⟩
  · exact Or.inr ⟨by simp only [icond, decide_eq_false_iff_not, Int32.not_le]; exact hc, h⟩
  · exact Or.inl ⟨by simp only [icond, decide_eq_true_eq]; exact Int32.not_lt.mp hc, h⟩
  · exact Or.inl ⟨by simp [icond, hc], h⟩
  · exact Or.inr ⟨by simp [icond, hc], h⟩
  · exact Or.inr ⟨by simp only [icond, decide_eq_false_iff_not, Int32.not_le]; exact hc, h⟩
  · exact Or.inl ⟨by simp only [icond, decide_eq_true_eq]; exact Int32.not_lt.mp hc, h⟩
theorem wsw_ok {β : Type} {f : Nat → M β} {d : Int} {x : Int32} {I : MI} {r : Option (β × MI)} : ∀ {l : List (Int × Int)}, wsw f d x l I = r → f (lkAt d l x) I = r := by
  intro l
  induction l with
  | nil => exact id
  | cons e l ih =>
    intro h
    obtain ⟨k, t⟩ := e
    unfold wsw at h
    unfold lkAt
    split at h
    · rename_i hc; rw [if_pos hc]; exact h
    · rename_i hc; rw [if_neg hc]; exact ih h
/-! what the tables say of references -/
def frOK (e : Nat × Nat × Nat × Nat) : Bool := (objL (100 + e.1 / 128)).all fun a => decide ((a, e.1 % 128, adr e.2.2.1 e.2.2.2 a) ∈ rfT) && okB e.2.1 (adr e.2.2.1 e.2.2.2 a)
theorem fr_all : frL.all frOK = true := by decide +kernel
theorem obj_all : (List.range 13).all (fun c => (objL (100 + c)).all fun a => isObj shT a c) = true := by decide +kernel
theorem okB_obj {c a : Nat} (hc : c < 13) : okB (100 + c) a = memN a (objL (100 + c)) := by
  match c, hc with
  | 0, _ => rfl
  | 1, _ => rfl
  | 2, _ => rfl
  | 3, _ => rfl
  | 4, _ => rfl
  | 5, _ => rfl
  | 6, _ => rfl
  | 7, _ => rfl
  | 8, _ => rfl
  | 9, _ => rfl
  | 10, _ => rfl
  | 11, _ => rfl
  | 12, _ => rfl
  | n + 13, h => omega
theorem fty_lt {c k : Nat} (h : ftyOf pF c k ≠ 9) : c < 13 := by
  rcases Nat.lt_or_ge c 13 with h2 | h2
  · exact h2
  · refine absurd ?_ h
    unfold ftyOf
    have e : pF[c]? = none := List.getElem?_eq_none_iff.mpr (by show 13 ≤ c; exact h2)
    rw [e]
theorem gf_obj {c a : Nat} (hc : c < 13) (h : okB (100 + c) a = true) : isObj shT a c = true := by
  rw [okB_obj hc, memN_iff] at h
  exact List.all_eq_true.mp (List.all_eq_true.mp obj_all c (List.mem_range.mpr hc)) a h
theorem frf_mem {n : Nat} {q : Nat × Nat × Nat} : ∀ {l : List (Nat × Nat × Nat × Nat)}, frf l n = some q → (n, q) ∈ l := by
  intro l
  induction l with
  | nil => intro h; cases h
  | cons e r ih =>
    intro h
    unfold frf at h
    split at h
    · rename_i hb
      have e1 := Nat.eq_of_beq_eq_true hb
      have e2 := Option.some.inj h
      rw [← e1, ← e2]
      exact List.mem_cons_self
    · exact List.mem_cons_of_mem _ (ih h)
theorem rf0_in {a k x : Nat} (h : (a, k, x) ∈ rfT) : rf0 a k = some x := rf0_at (e := (a, k, x)) h
theorem gf_ref {n a t2 md x : Nat} (hf : frf frL n = some (t2, md, x)) (hc : n / 128 < 13) (h : okB (100 + n / 128) a = true) : rf0 a (n % 128) = some (adr md x a) ∧ okB t2 (adr md x a) = true := by
  rw [okB_obj hc, memN_iff] at h
  have h1 := List.all_eq_true.mp fr_all _ (frf_mem hf)
  unfold frOK at h1
  have h2 := List.all_eq_true.mp h1 a h
  simp only [Bool.and_eq_true, decide_eq_true_eq] at h2
  exact ⟨rf0_in h2.1, h2.2⟩
theorem arS_ok {t a n : Nat} (h : arS t a = some n) (ho : okB t a = true) : isArr shT a = true ∧ siz shT a = n := by
  unfold arS at h
  split at h
  · rename_i hb
    unfold okB at ho
    rw [hb] at ho
    dsimp only at ho
    simp only [Bool.and_eq_true] at ho
    exact ⟨ho.1, (Nat.eq_of_beq_eq_true ho.2).trans (Option.some.inj h)⟩
  · split at h
    · rename_i hb
      have e := Nat.eq_of_beq_eq_true hb
      subst e
      exact ⟨ho, Option.some.inj h⟩
    · cases h
theorem row_all : (List.range 6).all (fun i => decide ((123, i, 124 + 11 * i) ∈ rfT) && okB 110 (124 + 11 * i)) = true := by decide +kernel
theorem inR_lt {i : Int32} {n : Nat} (h : inR i n = true) : i.toNatClampNeg < n := by
  unfold inR at h
  simp only [Bool.and_eq_true, decide_eq_true_eq] at h
  exact h.2
theorem gR_ok {β : Type} {ls : TL} {i t : Nat} {k : Nat → M β} {I : MI} {r : β × MI} (h : gR ls i t k I = some r) (ht : Ty ls) : ∃ a, (∃ t, nth ls i = some (t, .ref a)) ∧ okB t a = true ∧ k a I = some r := by
  unfold gR at h
  generalize hn : nth ls i = q at h
  split at h
  · rename_i t2 a
    cases hb : Nat.beq t2 t with
    | false => rw [hb] at h; cases h
    | true =>
      rw [hb] at h
      have e2 := Nat.eq_of_beq_eq_true hb
      subst e2
      exact ⟨a, ⟨_, rfl⟩, ty_nth ht hn, h⟩
  · cases h
end WF2
