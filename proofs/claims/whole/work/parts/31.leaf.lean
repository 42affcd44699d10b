/-! leaves of pieces, loops -/
section WF4
variable {L : Nat} {X : Nat → Int32}
abbrev gD {β : Type} (ls : TL) (i : Nat) (k : M β) : M β := match nth ls i with
  | some (_, .long _) => fl
  | some (_, .double _) => fl
  | _ => k
abbrev gC {β : Type} (ls : TL) (i t a : Nat) (k : M β) : M β := match nth ls i with
  | some (t2, .ref b) => match Nat.beq t2 t && Nat.beq b a with
    | true => k
    | false => fl
  | _ => fl
theorem gC_ok {β : Type} {ls : TL} {i t a : Nat} {k : M β} {I : MI} {r : β × MI} (h : gC ls i t a k I = some r) : (∃ t, nth ls i = some (t, .ref a)) ∧ k I = some r := by
  unfold gC at h
  generalize hn : nth ls i = q at h
  split at h
  · rename_i t2 b
    cases hb : Nat.beq t2 t && Nat.beq b a with
    | false => rw [hb] at h; cases h
    | true =>
      rw [hb] at h
      simp only [Bool.and_eq_true] at hb
      have e2 := Nat.eq_of_beq_eq_true hb.2
      subst e2
      exact ⟨⟨_, rfl⟩, h⟩
  · cases h
def nLg (ls : TL) (i : Nat) : Prop := ∀ e, nth ls i = some e → notLong e.2 = true
theorem gD_ok {β : Type} {ls : TL} {i : Nat} {k : M β} {I : MI} {r : β × MI} (h : gD ls i k I = some r) : nLg ls i ∧ k I = some r := by
  unfold gD at h
  generalize hn : nth ls i = q at h
  split at h
  · cases h
  · cases h
  · rename_i h1 h2
    refine ⟨fun e he => ?_, h⟩
    obtain ⟨t, v⟩ := e
    rw [hn] at he
    cases v <;> first | rfl | exact absurd he (h1 _ _) | exact absurd he (h2 _ _)
/-- each place holds what is wanted, or nothing is wanted of it -/
def LF (ls : TL) : Nat → TL → Prop
  | _, [] => True
  | i, e :: r => ((e.2 = dV ∧ nLg ls i) ∨ ∃ t, nth ls i = some (t, e.2)) ∧ LF ls (i + 1) r
theorem lf_at {ls : TL} : ∀ {ls2 : TL} {i : Nat}, LF ls i ls2 → ∀ j e, nth ls2 j = some e → (e.2 = dV ∧ nLg ls (i + j)) ∨ ∃ t, nth ls (i + j) = some (t, e.2) := by
  intro ls2
  induction ls2 with
  | nil => intro i _ j e h; cases h
  | cons a r ih =>
    intro i h j e hj
    cases j with
    | zero => cases hj; exact h.1
    | succ j =>
      have h2 := ih h.2 j e hj
      rw [show i + 1 + j = i + (j + 1) by omega] at h2
      exact h2
theorem at_leaf {d z pc : Nat} {ls ls2 : TL} {I : MI} {o : Option Value × PH} (hl : ls.length = ls2.length) (h : LF ls 0 ls2) (k : At L X d z pc ls2 [] I o) : At L X d z pc ls [] I o := by
  refine seg_forget ⟨by unfold vs; rw [List.length_map, List.length_map]; exact hl.symm, fun i w hw => ?_⟩ k
  unfold vs at hw ⊢
  rw [List.getElem?_map] at hw
  cases h2 : ls2[i]? with
  | none => rw [h2] at hw; cases hw
  | some e =>
    rw [h2] at hw
    have hw2 : e.2 = w := Option.some.inj hw
    have h3 := lf_at h i e (by rw [nth_eq]; exact h2)
    rw [Nat.zero_add] at h3
    rcases h3 with ⟨q1, q2⟩ | ⟨t, q⟩
    · refine Or.inr ⟨by rw [← hw2]; exact q1, fun u hu => ?_⟩
      rw [List.getElem?_map] at hu
      cases h4 : ls[i]? with
      | none => rw [h4] at hu; cases hu
      | some e2 =>
        rw [h4] at hu
        have hu2 : e2.2 = u := Option.some.inj hu
        rw [← hu2]
        exact q2 e2 (by rw [nth_eq]; exact h4)
    · refine Or.inl ?_
      rw [nth_eq] at q
      rw [List.getElem?_map, q, ← hw2]
      rfl
def SQ {σ β : Type} (P : σ → MI → Prop) (Q : β → MI → Prop) : σ ⊕ β → MI → Prop
  | .inl y => P y
  | .inr e => Q e
theorem at_lp {σ β : Type} {body : σ → M (σ ⊕ β)} {P : σ → MI → Prop} {Q : β → MI → Prop} (hb : ∀ x I r I1, body x I = some (r, I1) → SQ P Q r I1 → P x I) : ∀ (n : Nat) (x : σ) (I : MI) (e : β) (I1 : MI), lp body n x I = some (e, I1) → Q e I1 → P x I := by
  intro n
  induction n with
  | zero => intro x I e I1 h; cases h
  | succ n ih =>
    intro x I e I1 h hq
    unfold lp at h
    obtain ⟨r, I2, h1, h2⟩ := bn_some h
    refine hb x I r I2 h1 ?_
    cases r with
    | inl y => exact ih y I2 e I1 h2 hq
    | inr y => cases h2; exact hq
theorem seg_deep : ∀ (n d z pc : Nat) (ls st : List Value) (h : PH) (o : Option Value × PH), prun pT pN pF L X n d z pc ls st h = some o → prun pT pN pF L X n (d + 1) z pc ls st h = some o := by
  intro n
  induction n with
  | zero => intro d z pc ls st h o hr; rw [prun_0] at hr; cases hr
  | succ n ih =>
    intro d z pc ls st h o hr
    rw [prun_s] at hr ⊢
    unfold run1 at hr ⊢
    cases hf : fetch pT z pc with
    | none => rw [hf] at hr; cases hr
    | some q =>
      obtain ⟨op, len⟩ := q
      rw [hf] at hr
      dsimp only at hr ⊢
      by_cases hir : isRet op = true
      · rw [if_pos hir] at hr ⊢; exact hr
      · rw [if_neg hir] at hr ⊢
        cases hc : callee op with
        | some z2 =>
          rw [hc] at hr
          dsimp only at hr ⊢
          cases hm : pT[z2]? with
          | none => rw [hm] at hr; cases hr
          | some m =>
            rw [hm] at hr
            dsimp only at hr ⊢
            cases d with
            | zero => cases hr
            | succ d =>
              dsimp only at hr ⊢
              split at hr
              · rename_i hcond
                rw [if_pos hcond]
                cases hcall : prun pT pN pF L X n d z2 0 (locE (List.take m.2.1 st).reverse m.2.2.1) [] h with
                | none => rw [hcall] at hr; cases hr
                | some w =>
                  obtain ⟨v, h1⟩ := w
                  rw [hcall] at hr
                  rw [ih _ _ _ _ _ _ _ hcall]
                  exact ih _ _ _ _ _ _ _ hr
              · cases hr
        | none =>
          rw [hc] at hr
          dsimp only at hr ⊢
          cases hst : stp pN pF L X op len pc ls st h with
          | none => rw [hst] at hr; cases hr
          | some w =>
            obtain ⟨ob, b, p1, p2, ls1, st1, h1⟩ := w
            rw [hst] at hr
            dsimp only at hr ⊢
            split at hr
            · rename_i ho; rw [if_pos ho]; exact ih _ _ _ _ _ _ _ hr
            · cases hr
theorem okB_one {t a c : Nat} (h : okB t a = true) (hl : ∀ a, okB t a = memN a [c]) : a = c := by
  rw [hl a, memN_iff] at h
  simpa using h
theorem one_111 {a : Nat} (h : okB 111 a = true) : a = 0 := okB_one h fun _ => rfl
theorem one_105 {a : Nat} (h : okB 105 a = true) : a = 93 := okB_one h fun _ => rfl
theorem one_104 {a : Nat} (h : okB 104 a = true) : a = 190 := okB_one h fun _ => rfl
theorem one_106 {a : Nat} (h : okB 106 a = true) : a = 195 := okB_one h fun _ => rfl
theorem one_112 {a : Nat} (h : okB 112 a = true) : a = 207 := okB_one h fun _ => rfl
def anyA (t : Nat) : Bool := Nat.ble 10000 t || Nat.beq t 9999
theorem okB_any {t a : Nat} (h : okB t a = true) (ha : anyA t = true) : okB 9999 a = true := by
  unfold anyA at ha
  unfold okB at h
  cases hb : Nat.ble 10000 t with
  | true =>
    rw [hb] at h
    dsimp only at h
    simp only [Bool.and_eq_true] at h
    exact h.1
  | false =>
    rw [hb] at ha
    have e := Nat.eq_of_beq_eq_true ha
    subst e
    exact h
abbrev mC {β : Type} (b : Bool) (A B : M β) : M β := match b with
  | true => A
  | false => B
abbrev mN {β : Type} (st : TL) (k : M β) : M β := match st with
  | [] => k
  | _ :: _ => fl
theorem mC_ok {β : Type} {b : Bool} {A B : M β} {I : MI} {r : β × MI} (h : mC b A B I = some r) : (b = true ∧ A I = some r) ∨ (b = false ∧ B I = some r) := by
  cases b with
  | true => exact Or.inl ⟨rfl, h⟩
  | false => exact Or.inr ⟨rfl, h⟩
theorem mN_ok {β : Type} {st : TL} {k : M β} {I : MI} {r : β × MI} (h : mN st k I = some r) : st = [] ∧ k I = some r := by
  cases st with
  | nil => exact ⟨rfl, h⟩
  | cons a l => cases h
end WF4
