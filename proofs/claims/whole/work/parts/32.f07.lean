/-! methods (written by wip/tools/gen_f.py) -/
section
variable {L : Nat} {X : Nat → Int32}
set_option maxRecDepth 100000 in
theorem z_Reader_cutIntoTokens : pT[68]? = some (q_Reader_cutIntoTokens, 2, 6, 0, 5) := rfl
def W_Reader_cutIntoTokens (F : Int32 → M Unit) : CSem := fun _ args k => match args with
  | [(t0, .ref a0), (_, .int a1)] => mB (Nat.beq t0 105) <| bn (F a1) fun _ => k none
  | _ => fl
def cs_Reader_cutIntoTokens (f_Reader_addToken : Int32 → Int32 → Int32 → M Unit) (f_Reader_isDigit : Int32 → M Int32) (f_Reader_isLetter : Int32 → M Int32) (f_Reader_keyword : Int32 → Int32 → M Int32) (f_Reader_numberAt : Int32 → Int32 → M Int32) : List (Nat × Nat × CSem) := [(72, 4, W_Reader_addToken f_Reader_addToken), (73, 1, W_Reader_isDigit f_Reader_isDigit), (69, 1, W_Reader_isLetter f_Reader_isLetter), (70, 3, W_Reader_keyword f_Reader_keyword), (74, 3, W_Reader_numberAt f_Reader_numberAt)]
def B_Reader_cutIntoTokens_36 (x1 : Int32) (x2 : Int32) (y : Int32) : M ((Int32) ⊕ ((Int32))) :=
  (if y < x1 then
    bn (ld 400 106 y) fun v1 =>
    bn (F_Reader_isLetter v1) fun v2 =>
    (if v2 = 0 then
      rt (.inr y)
    else
      rt (.inl (y + (1 : Int32))))
  else
    rt (.inr y))
set_option maxRecDepth 4000 in
theorem e_b_Reader_cutIntoTokens_36 (f_Reader_addToken : Int32 → Int32 → Int32 → M Unit) (f_Reader_isDigit : Int32 → M Int32) (f_Reader_isLetter : Int32 → M Int32) (f_Reader_keyword : Int32 → Int32 → M Int32) (f_Reader_numberAt : Int32 → Int32 → M Int32) (x1 : Int32) (x2 : Int32) (y : Int32) : wf (β := (Int32) ⊕ ((Int32))) L X q_Reader_cutIntoTokens 0 (cs_Reader_cutIntoTokens f_Reader_addToken f_Reader_isDigit f_Reader_isLetter f_Reader_keyword f_Reader_numberAt) [4] [12, 36, 61, 98, 123] (fun pc ls st => mC (Nat.beq pc 36) (mN st <| gD ls 3 <| gI ls 4 fun a4 => gD ls 5 <| rt (.inl a4)) (mC (Nat.beq pc 61) (mN st <| gD ls 3 <| gI ls 4 fun a4 => gD ls 5 <| rt (.inr a4)) (fl))) (fun _ => fl) 105 36 [(105, .ref 93), (0, .int x1), (0, .int x2), (0, dV), (0, .int y), (0, dV)] [] = ((if y < x1 then
    bn (ld 400 106 y) fun v1 =>
    bn (f_Reader_isLetter v1) fun v2 =>
    (if v2 = 0 then
      rt (.inr y)
    else
      rt (.inl (y + (1 : Int32))))
  else
    rt (.inr y))) := rfl
theorem b_Reader_cutIntoTokens_36 {d : Nat} (hcs : AllS L X d (cs_Reader_cutIntoTokens F_Reader_addToken F_Reader_isDigit F_Reader_isLetter F_Reader_keyword F_Reader_numberAt)) (x1 : Int32) (x2 : Int32) {o : Option Value × PH} {Q : ((Int32) ⊕ ((Int32))) → MI → Prop} (qb : ∀ y I, Q (.inl y) I → At L X (d + 1) 68 36 [(105, .ref 93), (0, .int x1), (0, .int x2), (0, dV), (0, .int y), (0, dV)] [] I o) (qe61 : ∀ y I, Q (.inr y) I → At L X (d + 1) 68 61 [(105, .ref 93), (0, .int x1), (0, .int x2), (0, dV), (0, .int y), (0, dV)] [] I o) (y : Int32) (I : MI) (r : (Int32) ⊕ ((Int32))) (I1 : MI) (h : B_Reader_cutIntoTokens_36 x1 x2 y I = some (r, I1)) (hq : Q r I1) : At L X (d + 1) 68 36 [(105, .ref 93), (0, .int x1), (0, .int x2), (0, dV), (0, .int y), (0, dV)] [] I o := by
  refine wf_ok z_Reader_cutIntoTokens hcs ?_ ?_ _ _ _ _ _ ⟨rfl, trivial, trivial, trivial, trivial, trivial, trivial⟩ trivial (unm_refl _ _) ((congrFun (e_b_Reader_cutIntoTokens_36 (L := L) (X := X) F_Reader_addToken F_Reader_isDigit F_Reader_isLetter F_Reader_keyword F_Reader_numberAt x1 x2 y) I).trans h)
  · intro pc ls st I2 h1 h2 h3 h
    rcases mC_ok h with ⟨hb, h⟩ | ⟨_, h⟩
    · have e := Nat.eq_of_beq_eq_true hb
      subst e
      obtain ⟨hst, h⟩ := mN_ok h
      subst hst
      obtain ⟨n3, h⟩ := gD_ok h
      obtain ⟨a4, n4, h⟩ := gI_ok h
      obtain ⟨n5, h⟩ := gD_ok h
      refine at_leaf (ls2 := [(105, .ref 93), (0, .int x1), (0, .int x2), (0, dV), (0, .int a4), (0, dV)]) h3.1 ⟨Or.inr ⟨_, (h3.2 0 rfl).trans rfl⟩, Or.inr ⟨_, (h3.2 1 rfl).trans rfl⟩, Or.inr ⟨_, (h3.2 2 rfl).trans rfl⟩, Or.inl ⟨rfl, n3⟩, Or.inr n4, Or.inl ⟨rfl, n5⟩, trivial⟩ ?_
      cases h; exact qb _ _ hq
    rcases mC_ok h with ⟨hb, h⟩ | ⟨_, h⟩
    · have e := Nat.eq_of_beq_eq_true hb
      subst e
      obtain ⟨hst, h⟩ := mN_ok h
      subst hst
      obtain ⟨n3, h⟩ := gD_ok h
      obtain ⟨a4, n4, h⟩ := gI_ok h
      obtain ⟨n5, h⟩ := gD_ok h
      refine at_leaf (ls2 := [(105, .ref 93), (0, .int x1), (0, .int x2), (0, dV), (0, .int a4), (0, dV)]) h3.1 ⟨Or.inr ⟨_, (h3.2 0 rfl).trans rfl⟩, Or.inr ⟨_, (h3.2 1 rfl).trans rfl⟩, Or.inr ⟨_, (h3.2 2 rfl).trans rfl⟩, Or.inl ⟨rfl, n3⟩, Or.inr n4, Or.inl ⟨rfl, n5⟩, trivial⟩ ?_
      cases h; exact qe61 _ _ hq
    cases h
  · intro v I2 _ h
    cases h
def K_Reader_cutIntoTokens_61 (x1 : Int32) (x2 : Int32) (x4 : Int32) : M ((Int32) ⊕ (Unit)) :=
  bn (F_Reader_keyword x2 x4) fun v1 =>
  (if v1 = (-1 : Int32) then
    bn (F_Reader_addToken (1 : Int32) v1 x2) fun _ =>
    rt (.inl x4)
  else
    bn (F_Reader_addToken (2 : Int32) v1 x2) fun _ =>
    rt (.inl x4))
set_option maxRecDepth 4000 in
theorem e_s_Reader_cutIntoTokens_61 (f_Reader_addToken : Int32 → Int32 → Int32 → M Unit) (f_Reader_isDigit : Int32 → M Int32) (f_Reader_isLetter : Int32 → M Int32) (f_Reader_keyword : Int32 → Int32 → M Int32) (f_Reader_numberAt : Int32 → Int32 → M Int32) (x1 : Int32) (x2 : Int32) (x4 : Int32) : wf (β := (Int32) ⊕ (Unit)) L X q_Reader_cutIntoTokens 0 (cs_Reader_cutIntoTokens f_Reader_addToken f_Reader_isDigit f_Reader_isLetter f_Reader_keyword f_Reader_numberAt) [2, 5] [12, 36, 61, 98, 123] (fun pc ls st => mC (Nat.beq pc 12) (mN st <| gI ls 2 fun a2 => gD ls 3 <| gD ls 4 <| gD ls 5 <| rt (.inl a2)) (fl)) (fun v => match v with | none => rt (.inr ()) | _ => fl) 105 61 [(105, .ref 93), (0, .int x1), (0, .int x2), (0, dV), (0, .int x4), (0, dV)] [] = (bn (f_Reader_keyword x2 x4) fun v1 =>
  (if v1 = (-1 : Int32) then
    bn (f_Reader_addToken (1 : Int32) v1 x2) fun _ =>
    rt (.inl x4)
  else
    bn (f_Reader_addToken (2 : Int32) v1 x2) fun _ =>
    rt (.inl x4))) := rfl
theorem s_Reader_cutIntoTokens_61 {d : Nat} (hcs : AllS L X d (cs_Reader_cutIntoTokens F_Reader_addToken F_Reader_isDigit F_Reader_isLetter F_Reader_keyword F_Reader_numberAt)) (x1 : Int32) (x2 : Int32) (x4 : Int32) {o : Option Value × PH} {Q : ((Int32) ⊕ (Unit)) → MI → Prop} (qb : ∀ y I, Q (.inl y) I → At L X (d + 1) 68 12 [(105, .ref 93), (0, .int x1), (0, .int y), (0, dV), (0, dV), (0, dV)] [] I o) (qr : ∀ v I, Q (.inr v) I → o = (none, HH I)) (I : MI) (r : (Int32) ⊕ (Unit)) (I1 : MI) (h : K_Reader_cutIntoTokens_61 x1 x2 x4 I = some (r, I1)) (hq : Q r I1) : At L X (d + 1) 68 61 [(105, .ref 93), (0, .int x1), (0, .int x2), (0, dV), (0, .int x4), (0, dV)] [] I o := by
  refine wf_ok z_Reader_cutIntoTokens hcs ?_ ?_ _ _ _ _ _ ⟨rfl, trivial, trivial, trivial, trivial, trivial, trivial⟩ trivial (unm_refl _ _) ((congrFun (e_s_Reader_cutIntoTokens_61 (L := L) (X := X) F_Reader_addToken F_Reader_isDigit F_Reader_isLetter F_Reader_keyword F_Reader_numberAt x1 x2 x4) I).trans h)
  · intro pc ls st I2 h1 h2 h3 h
    rcases mC_ok h with ⟨hb, h⟩ | ⟨_, h⟩
    · have e := Nat.eq_of_beq_eq_true hb
      subst e
      obtain ⟨hst, h⟩ := mN_ok h
      subst hst
      obtain ⟨a2, n2, h⟩ := gI_ok h
      obtain ⟨n3, h⟩ := gD_ok h
      obtain ⟨n4, h⟩ := gD_ok h
      obtain ⟨n5, h⟩ := gD_ok h
      refine at_leaf (ls2 := [(105, .ref 93), (0, .int x1), (0, .int a2), (0, dV), (0, dV), (0, dV)]) h3.1 ⟨Or.inr ⟨_, (h3.2 0 rfl).trans rfl⟩, Or.inr ⟨_, (h3.2 1 rfl).trans rfl⟩, Or.inr n2, Or.inl ⟨rfl, n3⟩, Or.inl ⟨rfl, n4⟩, Or.inl ⟨rfl, n5⟩, trivial⟩ ?_
      cases h; exact qb _ _ hq
    cases h
  · intro v I2 _ h
    split at h
    · cases h; exact qr _ _ hq
    · cases h
def K_Reader_cutIntoTokens_36 (x1 : Int32) (x2 : Int32) (x4 : Int32) : M ((Int32) ⊕ (Unit)) :=
  bn (lp (B_Reader_cutIntoTokens_36 x1 x2) FU x4) fun e => K_Reader_cutIntoTokens_61 x1 x2 e
theorem s_Reader_cutIntoTokens_36 {d : Nat} (hcs : AllS L X d (cs_Reader_cutIntoTokens F_Reader_addToken F_Reader_isDigit F_Reader_isLetter F_Reader_keyword F_Reader_numberAt)) (x1 : Int32) (x2 : Int32) (x4 : Int32) {o : Option Value × PH} {Q : ((Int32) ⊕ (Unit)) → MI → Prop} (qb : ∀ y I, Q (.inl y) I → At L X (d + 1) 68 12 [(105, .ref 93), (0, .int x1), (0, .int y), (0, dV), (0, dV), (0, dV)] [] I o) (qr : ∀ v I, Q (.inr v) I → o = (none, HH I)) (I : MI) (r : (Int32) ⊕ (Unit)) (I1 : MI) (h : K_Reader_cutIntoTokens_36 x1 x2 x4 I = some (r, I1)) (hq : Q r I1) : At L X (d + 1) 68 36 [(105, .ref 93), (0, .int x1), (0, .int x2), (0, dV), (0, .int x4), (0, dV)] [] I o := by
  unfold K_Reader_cutIntoTokens_36 at h
  obtain ⟨e, I2, h1, h2⟩ := bn_some h
  have w0 := fun w => at_lp (body := B_Reader_cutIntoTokens_36 x1 x2) (P := (fun (y : Int32) I => At L X (d + 1) 68 36 [(105, .ref 93), (0, .int x1), (0, .int x2), (0, dV), (0, .int y), (0, dV)] [] I o)) (Q := (fun (e : (Int32)) I => (K_Reader_cutIntoTokens_61 x1 x2 e) I = some (r, I1))) w FU x4 I e I2 h1 h2
  refine w0 ?_
  intro y I r2 I3 h hq2
  exact b_Reader_cutIntoTokens_36 hcs x1 x2 (Q := SQ (fun (y : Int32) I => At L X (d + 1) 68 36 [(105, .ref 93), (0, .int x1), (0, .int x2), (0, dV), (0, .int y), (0, dV)] [] I o) (fun (e : (Int32)) I => (K_Reader_cutIntoTokens_61 x1 x2 e) I = some (r, I1))) (fun _ _ w => w) (fun y I w => s_Reader_cutIntoTokens_61 hcs x1 x2 y qb qr _ _ _ w hq) y I r2 I3 h hq2
def B_Reader_cutIntoTokens_98 (x1 : Int32) (x2 : Int32) (y : Int32) : M ((Int32) ⊕ ((Int32))) :=
  (if y < x1 then
    bn (ld 400 106 y) fun v1 =>
    bn (F_Reader_isDigit v1) fun v2 =>
    (if v2 = 0 then
      rt (.inr y)
    else
      rt (.inl (y + (1 : Int32))))
  else
    rt (.inr y))
set_option maxRecDepth 4000 in
theorem e_b_Reader_cutIntoTokens_98 (f_Reader_addToken : Int32 → Int32 → Int32 → M Unit) (f_Reader_isDigit : Int32 → M Int32) (f_Reader_isLetter : Int32 → M Int32) (f_Reader_keyword : Int32 → Int32 → M Int32) (f_Reader_numberAt : Int32 → Int32 → M Int32) (x1 : Int32) (x2 : Int32) (y : Int32) : wf (β := (Int32) ⊕ ((Int32))) L X q_Reader_cutIntoTokens 0 (cs_Reader_cutIntoTokens f_Reader_addToken f_Reader_isDigit f_Reader_isLetter f_Reader_keyword f_Reader_numberAt) [4] [12, 36, 61, 98, 123] (fun pc ls st => mC (Nat.beq pc 98) (mN st <| gD ls 3 <| gI ls 4 fun a4 => gD ls 5 <| rt (.inl a4)) (mC (Nat.beq pc 123) (mN st <| gD ls 3 <| gI ls 4 fun a4 => gD ls 5 <| rt (.inr a4)) (fl))) (fun _ => fl) 105 98 [(105, .ref 93), (0, .int x1), (0, .int x2), (0, dV), (0, .int y), (0, dV)] [] = ((if y < x1 then
    bn (ld 400 106 y) fun v1 =>
    bn (f_Reader_isDigit v1) fun v2 =>
    (if v2 = 0 then
      rt (.inr y)
    else
      rt (.inl (y + (1 : Int32))))
  else
    rt (.inr y))) := rfl
theorem b_Reader_cutIntoTokens_98 {d : Nat} (hcs : AllS L X d (cs_Reader_cutIntoTokens F_Reader_addToken F_Reader_isDigit F_Reader_isLetter F_Reader_keyword F_Reader_numberAt)) (x1 : Int32) (x2 : Int32) {o : Option Value × PH} {Q : ((Int32) ⊕ ((Int32))) → MI → Prop} (qb : ∀ y I, Q (.inl y) I → At L X (d + 1) 68 98 [(105, .ref 93), (0, .int x1), (0, .int x2), (0, dV), (0, .int y), (0, dV)] [] I o) (qe123 : ∀ y I, Q (.inr y) I → At L X (d + 1) 68 123 [(105, .ref 93), (0, .int x1), (0, .int x2), (0, dV), (0, .int y), (0, dV)] [] I o) (y : Int32) (I : MI) (r : (Int32) ⊕ ((Int32))) (I1 : MI) (h : B_Reader_cutIntoTokens_98 x1 x2 y I = some (r, I1)) (hq : Q r I1) : At L X (d + 1) 68 98 [(105, .ref 93), (0, .int x1), (0, .int x2), (0, dV), (0, .int y), (0, dV)] [] I o := by
  refine wf_ok z_Reader_cutIntoTokens hcs ?_ ?_ _ _ _ _ _ ⟨rfl, trivial, trivial, trivial, trivial, trivial, trivial⟩ trivial (unm_refl _ _) ((congrFun (e_b_Reader_cutIntoTokens_98 (L := L) (X := X) F_Reader_addToken F_Reader_isDigit F_Reader_isLetter F_Reader_keyword F_Reader_numberAt x1 x2 y) I).trans h)
  · intro pc ls st I2 h1 h2 h3 h
    rcases mC_ok h with ⟨hb, h⟩ | ⟨_, h⟩
    · have e := Nat.eq_of_beq_eq_true hb
      subst e
      obtain ⟨hst, h⟩ := mN_ok h
      subst hst
      obtain ⟨n3, h⟩ := gD_ok h
      obtain ⟨a4, n4, h⟩ := gI_ok h
      obtain ⟨n5, h⟩ := gD_ok h
      refine at_leaf (ls2 := [(105, .ref 93), (0, .int x1), (0, .int x2), (0, dV), (0, .int a4), (0, dV)]) h3.1 ⟨Or.inr ⟨_, (h3.2 0 rfl).trans rfl⟩, Or.inr ⟨_, (h3.2 1 rfl).trans rfl⟩, Or.inr ⟨_, (h3.2 2 rfl).trans rfl⟩, Or.inl ⟨rfl, n3⟩, Or.inr n4, Or.inl ⟨rfl, n5⟩, trivial⟩ ?_
      cases h; exact qb _ _ hq
    rcases mC_ok h with ⟨hb, h⟩ | ⟨_, h⟩
    · have e := Nat.eq_of_beq_eq_true hb
      subst e
      obtain ⟨hst, h⟩ := mN_ok h
      subst hst
      obtain ⟨n3, h⟩ := gD_ok h
      obtain ⟨a4, n4, h⟩ := gI_ok h
      obtain ⟨n5, h⟩ := gD_ok h
      refine at_leaf (ls2 := [(105, .ref 93), (0, .int x1), (0, .int x2), (0, dV), (0, .int a4), (0, dV)]) h3.1 ⟨Or.inr ⟨_, (h3.2 0 rfl).trans rfl⟩, Or.inr ⟨_, (h3.2 1 rfl).trans rfl⟩, Or.inr ⟨_, (h3.2 2 rfl).trans rfl⟩, Or.inl ⟨rfl, n3⟩, Or.inr n4, Or.inl ⟨rfl, n5⟩, trivial⟩ ?_
      cases h; exact qe123 _ _ hq
    cases h
  · intro v I2 _ h
    cases h
def K_Reader_cutIntoTokens_123 (x1 : Int32) (x2 : Int32) (x4 : Int32) : M ((Int32) ⊕ (Unit)) :=
  (if (4 : Int32) < (x4 - x2) then
    bn (F_Reader_numberAt x2 x4) fun v2 =>
    bn (F_Reader_addToken (1 : Int32) v2 x2) fun _ =>
    rt (.inl x4)
  else
    bn (F_Reader_numberAt x2 x4) fun v1 =>
    bn (F_Reader_addToken (3 : Int32) v1 x2) fun _ =>
    rt (.inl x4))
set_option maxRecDepth 4000 in
theorem e_s_Reader_cutIntoTokens_123 (f_Reader_addToken : Int32 → Int32 → Int32 → M Unit) (f_Reader_isDigit : Int32 → M Int32) (f_Reader_isLetter : Int32 → M Int32) (f_Reader_keyword : Int32 → Int32 → M Int32) (f_Reader_numberAt : Int32 → Int32 → M Int32) (x1 : Int32) (x2 : Int32) (x4 : Int32) : wf (β := (Int32) ⊕ (Unit)) L X q_Reader_cutIntoTokens 0 (cs_Reader_cutIntoTokens f_Reader_addToken f_Reader_isDigit f_Reader_isLetter f_Reader_keyword f_Reader_numberAt) [2] [12, 36, 61, 98, 123] (fun pc ls st => mC (Nat.beq pc 12) (mN st <| gI ls 2 fun a2 => gD ls 3 <| gD ls 4 <| gD ls 5 <| rt (.inl a2)) (fl)) (fun v => match v with | none => rt (.inr ()) | _ => fl) 105 123 [(105, .ref 93), (0, .int x1), (0, .int x2), (0, dV), (0, .int x4), (0, dV)] [] = ((if (4 : Int32) < (x4 - x2) then
    bn (f_Reader_numberAt x2 x4) fun v2 =>
    bn (f_Reader_addToken (1 : Int32) v2 x2) fun _ =>
    rt (.inl x4)
  else
    bn (f_Reader_numberAt x2 x4) fun v1 =>
    bn (f_Reader_addToken (3 : Int32) v1 x2) fun _ =>
    rt (.inl x4))) := rfl
theorem s_Reader_cutIntoTokens_123 {d : Nat} (hcs : AllS L X d (cs_Reader_cutIntoTokens F_Reader_addToken F_Reader_isDigit F_Reader_isLetter F_Reader_keyword F_Reader_numberAt)) (x1 : Int32) (x2 : Int32) (x4 : Int32) {o : Option Value × PH} {Q : ((Int32) ⊕ (Unit)) → MI → Prop} (qb : ∀ y I, Q (.inl y) I → At L X (d + 1) 68 12 [(105, .ref 93), (0, .int x1), (0, .int y), (0, dV), (0, dV), (0, dV)] [] I o) (qr : ∀ v I, Q (.inr v) I → o = (none, HH I)) (I : MI) (r : (Int32) ⊕ (Unit)) (I1 : MI) (h : K_Reader_cutIntoTokens_123 x1 x2 x4 I = some (r, I1)) (hq : Q r I1) : At L X (d + 1) 68 123 [(105, .ref 93), (0, .int x1), (0, .int x2), (0, dV), (0, .int x4), (0, dV)] [] I o := by
  refine wf_ok z_Reader_cutIntoTokens hcs ?_ ?_ _ _ _ _ _ ⟨rfl, trivial, trivial, trivial, trivial, trivial, trivial⟩ trivial (unm_refl _ _) ((congrFun (e_s_Reader_cutIntoTokens_123 (L := L) (X := X) F_Reader_addToken F_Reader_isDigit F_Reader_isLetter F_Reader_keyword F_Reader_numberAt x1 x2 x4) I).trans h)
  · intro pc ls st I2 h1 h2 h3 h
    rcases mC_ok h with ⟨hb, h⟩ | ⟨_, h⟩
    · have e := Nat.eq_of_beq_eq_true hb
      subst e
      obtain ⟨hst, h⟩ := mN_ok h
      subst hst
      obtain ⟨a2, n2, h⟩ := gI_ok h
      obtain ⟨n3, h⟩ := gD_ok h
      obtain ⟨n4, h⟩ := gD_ok h
      obtain ⟨n5, h⟩ := gD_ok h
      refine at_leaf (ls2 := [(105, .ref 93), (0, .int x1), (0, .int a2), (0, dV), (0, dV), (0, dV)]) h3.1 ⟨Or.inr ⟨_, (h3.2 0 rfl).trans rfl⟩, Or.inr ⟨_, (h3.2 1 rfl).trans rfl⟩, Or.inr n2, Or.inl ⟨rfl, n3⟩, Or.inl ⟨rfl, n4⟩, Or.inl ⟨rfl, n5⟩, trivial⟩ ?_
      cases h; exact qb _ _ hq
    cases h
  · intro v I2 _ h
    split at h
    · cases h; exact qr _ _ hq
    · cases h
def K_Reader_cutIntoTokens_98 (x1 : Int32) (x2 : Int32) (x4 : Int32) : M ((Int32) ⊕ (Unit)) :=
  bn (lp (B_Reader_cutIntoTokens_98 x1 x2) FU x4) fun e => K_Reader_cutIntoTokens_123 x1 x2 e
theorem s_Reader_cutIntoTokens_98 {d : Nat} (hcs : AllS L X d (cs_Reader_cutIntoTokens F_Reader_addToken F_Reader_isDigit F_Reader_isLetter F_Reader_keyword F_Reader_numberAt)) (x1 : Int32) (x2 : Int32) (x4 : Int32) {o : Option Value × PH} {Q : ((Int32) ⊕ (Unit)) → MI → Prop} (qb : ∀ y I, Q (.inl y) I → At L X (d + 1) 68 12 [(105, .ref 93), (0, .int x1), (0, .int y), (0, dV), (0, dV), (0, dV)] [] I o) (qr : ∀ v I, Q (.inr v) I → o = (none, HH I)) (I : MI) (r : (Int32) ⊕ (Unit)) (I1 : MI) (h : K_Reader_cutIntoTokens_98 x1 x2 x4 I = some (r, I1)) (hq : Q r I1) : At L X (d + 1) 68 98 [(105, .ref 93), (0, .int x1), (0, .int x2), (0, dV), (0, .int x4), (0, dV)] [] I o := by
  unfold K_Reader_cutIntoTokens_98 at h
  obtain ⟨e, I2, h1, h2⟩ := bn_some h
  have w0 := fun w => at_lp (body := B_Reader_cutIntoTokens_98 x1 x2) (P := (fun (y : Int32) I => At L X (d + 1) 68 98 [(105, .ref 93), (0, .int x1), (0, .int x2), (0, dV), (0, .int y), (0, dV)] [] I o)) (Q := (fun (e : (Int32)) I => (K_Reader_cutIntoTokens_123 x1 x2 e) I = some (r, I1))) w FU x4 I e I2 h1 h2
  refine w0 ?_
  intro y I r2 I3 h hq2
  exact b_Reader_cutIntoTokens_98 hcs x1 x2 (Q := SQ (fun (y : Int32) I => At L X (d + 1) 68 98 [(105, .ref 93), (0, .int x1), (0, .int x2), (0, dV), (0, .int y), (0, dV)] [] I o) (fun (e : (Int32)) I => (K_Reader_cutIntoTokens_123 x1 x2 e) I = some (r, I1))) (fun _ _ w => w) (fun y I w => s_Reader_cutIntoTokens_123 hcs x1 x2 y qb qr _ _ _ w hq) y I r2 I3 h hq2
def B_Reader_cutIntoTokens_12 (x1 : Int32) (y : Int32) : M ((Int32) ⊕ (Unit)) :=
  (if y < x1 then
    bn (ld 400 106 y) fun v1 =>
    bn (F_Reader_isLetter v1) fun v2 =>
    (if v2 = 0 then
      bn (F_Reader_isDigit v1) fun v3 =>
      (if v3 = 0 then
        (if v1 = (32 : Int32) then
          rt (.inl (y + (1 : Int32)))
        else
          (if v1 = (10 : Int32) then
            rt (.inl (y + (1 : Int32)))
          else
            bn (F_Reader_addToken (4 : Int32) v1 y) fun _ =>
            rt (.inl (y + (1 : Int32)))))
      else
        K_Reader_cutIntoTokens_98 x1 y (y + (1 : Int32)))
    else
      K_Reader_cutIntoTokens_36 x1 y (y + (1 : Int32)))
  else
    bn (F_Reader_addToken (0 : Int32) (0 : Int32) x1) fun _ =>
    rt (.inr ()))
set_option maxRecDepth 4000 in
theorem e_b_Reader_cutIntoTokens_12 (f_Reader_addToken : Int32 → Int32 → Int32 → M Unit) (f_Reader_isDigit : Int32 → M Int32) (f_Reader_isLetter : Int32 → M Int32) (f_Reader_keyword : Int32 → Int32 → M Int32) (f_Reader_numberAt : Int32 → Int32 → M Int32) (k_36 : Int32 → Int32 → Int32 → M ((Int32) ⊕ (Unit))) (k_98 : Int32 → Int32 → Int32 → M ((Int32) ⊕ (Unit))) (x1 : Int32) (y : Int32) : wf (β := (Int32) ⊕ (Unit)) L X q_Reader_cutIntoTokens 0 (cs_Reader_cutIntoTokens f_Reader_addToken f_Reader_isDigit f_Reader_isLetter f_Reader_keyword f_Reader_numberAt) [2, 3, 4] [12, 36, 61, 98, 123] (fun pc ls st => mC (Nat.beq pc 12) (mN st <| gI ls 2 fun a2 => gD ls 3 <| gD ls 4 <| gD ls 5 <| rt (.inl a2)) (mC (Nat.beq pc 36) (mN st <| gI ls 2 fun a2 => gD ls 3 <| gI ls 4 fun a4 => gD ls 5 <| k_36 x1 a2 a4) (mC (Nat.beq pc 98) (mN st <| gI ls 2 fun a2 => gD ls 3 <| gI ls 4 fun a4 => gD ls 5 <| k_98 x1 a2 a4) (fl)))) (fun v => match v with | none => rt (.inr ()) | _ => fl) 105 12 [(105, .ref 93), (0, .int x1), (0, .int y), (0, dV), (0, dV), (0, dV)] [] = ((if y < x1 then
    bn (ld 400 106 y) fun v1 =>
    bn (f_Reader_isLetter v1) fun v2 =>
    (if v2 = 0 then
      bn (f_Reader_isDigit v1) fun v3 =>
      (if v3 = 0 then
        (if v1 = (32 : Int32) then
          rt (.inl (y + (1 : Int32)))
        else
          (if v1 = (10 : Int32) then
            rt (.inl (y + (1 : Int32)))
          else
            bn (f_Reader_addToken (4 : Int32) v1 y) fun _ =>
            rt (.inl (y + (1 : Int32)))))
      else
        k_98 x1 y (y + (1 : Int32)))
    else
      k_36 x1 y (y + (1 : Int32)))
  else
    bn (f_Reader_addToken (0 : Int32) (0 : Int32) x1) fun _ =>
    rt (.inr ()))) := rfl
theorem b_Reader_cutIntoTokens_12 {d : Nat} (hcs : AllS L X d (cs_Reader_cutIntoTokens F_Reader_addToken F_Reader_isDigit F_Reader_isLetter F_Reader_keyword F_Reader_numberAt)) (x1 : Int32) {o : Option Value × PH} {Q : ((Int32) ⊕ (Unit)) → MI → Prop} (qb : ∀ y I, Q (.inl y) I → At L X (d + 1) 68 12 [(105, .ref 93), (0, .int x1), (0, .int y), (0, dV), (0, dV), (0, dV)] [] I o) (qr : ∀ v I, Q (.inr v) I → o = (none, HH I)) (y : Int32) (I : MI) (r : (Int32) ⊕ (Unit)) (I1 : MI) (h : B_Reader_cutIntoTokens_12 x1 y I = some (r, I1)) (hq : Q r I1) : At L X (d + 1) 68 12 [(105, .ref 93), (0, .int x1), (0, .int y), (0, dV), (0, dV), (0, dV)] [] I o := by
  refine wf_ok z_Reader_cutIntoTokens hcs ?_ ?_ _ _ _ _ _ ⟨rfl, trivial, trivial, trivial, trivial, trivial, trivial⟩ trivial (unm_refl _ _) ((congrFun (e_b_Reader_cutIntoTokens_12 (L := L) (X := X) F_Reader_addToken F_Reader_isDigit F_Reader_isLetter F_Reader_keyword F_Reader_numberAt K_Reader_cutIntoTokens_36 K_Reader_cutIntoTokens_98 x1 y) I).trans h)
  · intro pc ls st I2 h1 h2 h3 h
    rcases mC_ok h with ⟨hb, h⟩ | ⟨_, h⟩
    · have e := Nat.eq_of_beq_eq_true hb
      subst e
      obtain ⟨hst, h⟩ := mN_ok h
      subst hst
      obtain ⟨a2, n2, h⟩ := gI_ok h
      obtain ⟨n3, h⟩ := gD_ok h
      obtain ⟨n4, h⟩ := gD_ok h
      obtain ⟨n5, h⟩ := gD_ok h
      refine at_leaf (ls2 := [(105, .ref 93), (0, .int x1), (0, .int a2), (0, dV), (0, dV), (0, dV)]) h3.1 ⟨Or.inr ⟨_, (h3.2 0 rfl).trans rfl⟩, Or.inr ⟨_, (h3.2 1 rfl).trans rfl⟩, Or.inr n2, Or.inl ⟨rfl, n3⟩, Or.inl ⟨rfl, n4⟩, Or.inl ⟨rfl, n5⟩, trivial⟩ ?_
      cases h; exact qb _ _ hq
    rcases mC_ok h with ⟨hb, h⟩ | ⟨_, h⟩
    · have e := Nat.eq_of_beq_eq_true hb
      subst e
      obtain ⟨hst, h⟩ := mN_ok h
      subst hst
      obtain ⟨a2, n2, h⟩ := gI_ok h
      obtain ⟨n3, h⟩ := gD_ok h
      obtain ⟨a4, n4, h⟩ := gI_ok h
      obtain ⟨n5, h⟩ := gD_ok h
      refine at_leaf (ls2 := [(105, .ref 93), (0, .int x1), (0, .int a2), (0, dV), (0, .int a4), (0, dV)]) h3.1 ⟨Or.inr ⟨_, (h3.2 0 rfl).trans rfl⟩, Or.inr ⟨_, (h3.2 1 rfl).trans rfl⟩, Or.inr n2, Or.inl ⟨rfl, n3⟩, Or.inr n4, Or.inl ⟨rfl, n5⟩, trivial⟩ ?_
      exact s_Reader_cutIntoTokens_36 hcs x1 a2 a4 qb qr _ _ _ h hq
    rcases mC_ok h with ⟨hb, h⟩ | ⟨_, h⟩
    · have e := Nat.eq_of_beq_eq_true hb
      subst e
      obtain ⟨hst, h⟩ := mN_ok h
      subst hst
      obtain ⟨a2, n2, h⟩ := gI_ok h
      obtain ⟨n3, h⟩ := gD_ok h
      obtain ⟨a4, n4, h⟩ := gI_ok h
      obtain ⟨n5, h⟩ := gD_ok h
      refine at_leaf (ls2 := [(105, .ref 93), (0, .int x1), (0, .int a2), (0, dV), (0, .int a4), (0, dV)]) h3.1 ⟨Or.inr ⟨_, (h3.2 0 rfl).trans rfl⟩, Or.inr ⟨_, (h3.2 1 rfl).trans rfl⟩, Or.inr n2, Or.inl ⟨rfl, n3⟩, Or.inr n4, Or.inl ⟨rfl, n5⟩, trivial⟩ ?_
      exact s_Reader_cutIntoTokens_98 hcs x1 a2 a4 qb qr _ _ _ h hq
    cases h
  · intro v I2 _ h
    split at h
    · cases h; exact qr _ _ hq
    · cases h
def K_Reader_cutIntoTokens_12 (x1 : Int32) (x2 : Int32) : M (Unit) :=
  lp (B_Reader_cutIntoTokens_12 x1) FU x2
theorem s_Reader_cutIntoTokens_12 {d : Nat} (hcs : AllS L X d (cs_Reader_cutIntoTokens F_Reader_addToken F_Reader_isDigit F_Reader_isLetter F_Reader_keyword F_Reader_numberAt)) (x1 : Int32) (x2 : Int32) {o : Option Value × PH} {Q : (Unit) → MI → Prop} (q0 : ∀ v I, Q v I → o = (none, HH I)) (I : MI) (r : Unit) (I1 : MI) (h : K_Reader_cutIntoTokens_12 x1 x2 I = some (r, I1)) (hq : Q r I1) : At L X (d + 1) 68 12 [(105, .ref 93), (0, .int x1), (0, .int x2), (0, dV), (0, dV), (0, dV)] [] I o := by
  unfold K_Reader_cutIntoTokens_12 at h
  have w0 := fun w => at_lp (body := B_Reader_cutIntoTokens_12 x1) (P := (fun (y : Int32) I => At L X (d + 1) 68 12 [(105, .ref 93), (0, .int x1), (0, .int y), (0, dV), (0, dV), (0, dV)] [] I o)) (Q := (fun (e : Unit) I => Q e I)) w FU x2 I r I1 h hq
  refine w0 ?_
  intro y I r I1 h hq
  exact b_Reader_cutIntoTokens_12 hcs x1 (Q := SQ (fun (y : Int32) I => At L X (d + 1) 68 12 [(105, .ref 93), (0, .int x1), (0, .int y), (0, dV), (0, dV), (0, dV)] [] I o) (fun (e : Unit) I => Q e I)) (fun _ _ w => w) q0 y I r I1 h hq
def F_Reader_cutIntoTokens (x1 : Int32) : M (Unit) :=
  bn (wr 93 9 (0 : Int32)) fun _ =>
  bn (wr 93 10 (0 : Int32)) fun _ =>
  K_Reader_cutIntoTokens_12 x1 (0 : Int32)
set_option maxRecDepth 4000 in
theorem e_s_Reader_cutIntoTokens_0 (f_Reader_addToken : Int32 → Int32 → Int32 → M Unit) (f_Reader_isDigit : Int32 → M Int32) (f_Reader_isLetter : Int32 → M Int32) (f_Reader_keyword : Int32 → Int32 → M Int32) (f_Reader_numberAt : Int32 → Int32 → M Int32) (k_12 : Int32 → Int32 → M (Unit)) (x1 : Int32) : wf (β := Unit) L X q_Reader_cutIntoTokens 0 (cs_Reader_cutIntoTokens f_Reader_addToken f_Reader_isDigit f_Reader_isLetter f_Reader_keyword f_Reader_numberAt) [2] [12, 36, 61, 98, 123] (fun pc ls st => mC (Nat.beq pc 12) (mN st <| gI ls 2 fun a2 => gD ls 3 <| gD ls 4 <| gD ls 5 <| k_12 x1 a2) (fl)) (fun v => match v with | none => rt () | _ => fl) 105 0 [(105, .ref 93), (0, .int x1), (0, dV), (0, dV), (0, dV), (0, dV)] [] = (bn (wr 93 9 (0 : Int32)) fun _ =>
  bn (wr 93 10 (0 : Int32)) fun _ =>
  k_12 x1 (0 : Int32)) := rfl
theorem s_Reader_cutIntoTokens_0 {d : Nat} (hcs : AllS L X d (cs_Reader_cutIntoTokens F_Reader_addToken F_Reader_isDigit F_Reader_isLetter F_Reader_keyword F_Reader_numberAt)) (x1 : Int32) {o : Option Value × PH} {Q : (Unit) → MI → Prop} (q0 : ∀ v I, Q v I → o = (none, HH I)) (I : MI) (r : Unit) (I1 : MI) (h : F_Reader_cutIntoTokens x1 I = some (r, I1)) (hq : Q r I1) : At L X (d + 1) 68 0 [(105, .ref 93), (0, .int x1), (0, dV), (0, dV), (0, dV), (0, dV)] [] I o := by
  refine wf_ok z_Reader_cutIntoTokens hcs ?_ ?_ _ _ _ _ _ ⟨rfl, trivial, trivial, trivial, trivial, trivial, trivial⟩ trivial (unm_refl _ _) ((congrFun (e_s_Reader_cutIntoTokens_0 (L := L) (X := X) F_Reader_addToken F_Reader_isDigit F_Reader_isLetter F_Reader_keyword F_Reader_numberAt K_Reader_cutIntoTokens_12 x1) I).trans h)
  · intro pc ls st I2 h1 h2 h3 h
    rcases mC_ok h with ⟨hb, h⟩ | ⟨_, h⟩
    · have e := Nat.eq_of_beq_eq_true hb
      subst e
      obtain ⟨hst, h⟩ := mN_ok h
      subst hst
      obtain ⟨a2, n2, h⟩ := gI_ok h
      obtain ⟨n3, h⟩ := gD_ok h
      obtain ⟨n4, h⟩ := gD_ok h
      obtain ⟨n5, h⟩ := gD_ok h
      refine at_leaf (ls2 := [(105, .ref 93), (0, .int x1), (0, .int a2), (0, dV), (0, dV), (0, dV)]) h3.1 ⟨Or.inr ⟨_, (h3.2 0 rfl).trans rfl⟩, Or.inr ⟨_, (h3.2 1 rfl).trans rfl⟩, Or.inr n2, Or.inl ⟨rfl, n3⟩, Or.inl ⟨rfl, n4⟩, Or.inl ⟨rfl, n5⟩, trivial⟩ ?_
      exact s_Reader_cutIntoTokens_12 hcs x1 a2 q0 _ _ _ h hq
    cases h
  · intro v I2 _ h
    split at h
    · cases h; exact q0 _ _ hq
    · cases h
theorem w_Reader_cutIntoTokens {d : Nat} (hcs : AllS L X d (cs_Reader_cutIntoTokens F_Reader_addToken F_Reader_isDigit F_Reader_isLetter F_Reader_keyword F_Reader_numberAt)) : Snd L X (d + 1) 68 2 (W_Reader_cutIntoTokens F_Reader_cutIntoTokens) := by
  refine ⟨_, z_Reader_cutIntoTokens, rfl, fun β args k I r hty hlen h => ?_⟩
  unfold W_Reader_cutIntoTokens at h
  split at h
  · rename_i t0 a0 u1 a1
    obtain ⟨hb0, h⟩ := mB_ok h
    have e0 := Nat.eq_of_beq_eq_true hb0
    have g0 : okB 105 a0 = true := e0 ▸ hty.1
    have e20 := one_105 g0
    subst e20
    obtain ⟨v, I1, h1, h2⟩ := bn_some h
    refine ⟨gf_obj (c := 5) (by decide) g0, rfl, none, I1, trivial, ?_, h2⟩
    exact s_Reader_cutIntoTokens_0 hcs a1  (Q := fun w I => w = v ∧ I = I1) (fun w I q => by obtain ⟨rfl, rfl⟩ := q; rfl) I v I1 h1 ⟨rfl, rfl⟩
  · cases h
theorem S_Reader_cutIntoTokens {d : Nat} (hd : 3 ≤ d) : Snd L X d 68 2 (W_Reader_cutIntoTokens F_Reader_cutIntoTokens) := by
  obtain ⟨e, rfl⟩ : ∃ e, d = e + 1 := ⟨d - 1, by omega⟩
  exact w_Reader_cutIntoTokens ⟨S_Reader_addToken (by omega), S_Reader_isDigit (by omega), S_Reader_isLetter (by omega), S_Reader_keyword (by omega), S_Reader_numberAt (by omega), trivial⟩
set_option maxRecDepth 100000 in
theorem z_Reader_countOf : pT[104]? = some (q_Reader_countOf, 2, 2, 1, 5) := rfl
def W_Reader_countOf (F : Int32 → M Int32) : CSem := fun _ args k => match args with
  | [(t0, .ref a0), (_, .int a1)] => mB (Nat.beq t0 105) <| bn (F a1) fun v => k (some (0, .int v))
  | _ => fl
def cs_Reader_countOf : List (Nat × Nat × CSem) := []
def F_Reader_countOf (x1 : Int32) : M (Int32) :=
  (if x1 = (23 : Int32) then
    bn (rd 2 7) fun v2 =>
    rt v2
  else
    (if x1 = (9 : Int32) then
      rt (10 : Int32)
    else
      bn (rd 2 8) fun v1 =>
      rt v1))
set_option maxRecDepth 4000 in
theorem e_s_Reader_countOf_0 (x1 : Int32) : wf (β := Int32) L X q_Reader_countOf 1 cs_Reader_countOf [] [] (fun _ _ _ => fl) (fun v => match v with | some (_, .int x) => rt x | _ => fl) 23 0 [(105, .ref 93), (0, .int x1)] [] = ((if x1 = (23 : Int32) then
    bn (rd 2 7) fun v2 =>
    rt v2
  else
    (if x1 = (9 : Int32) then
      rt (10 : Int32)
    else
      bn (rd 2 8) fun v1 =>
      rt v1))) := rfl
theorem s_Reader_countOf_0 {d : Nat} (hcs : AllS L X d cs_Reader_countOf) (x1 : Int32) {o : Option Value × PH} {Q : (Int32) → MI → Prop} (q0 : ∀ v I, Q v I → o = (some (.int v), HH I)) (I : MI) (r : Int32) (I1 : MI) (h : F_Reader_countOf x1 I = some (r, I1)) (hq : Q r I1) : At L X (d + 1) 104 0 [(105, .ref 93), (0, .int x1)] [] I o := by
  refine wf_ok z_Reader_countOf hcs ?_ ?_ _ _ _ _ _ ⟨rfl, trivial, trivial⟩ trivial (unm_refl _ _) ((congrFun (e_s_Reader_countOf_0 (L := L) (X := X) x1) I).trans h)
  · intro pc ls st I2 h1 h2 h3 h
    cases h
  · intro v I2 _ h
    split at h
    · cases h; exact q0 _ _ hq
    · cases h
theorem w_Reader_countOf {d : Nat} (hcs : AllS L X d cs_Reader_countOf) : Snd L X (d + 1) 104 2 (W_Reader_countOf F_Reader_countOf) := by
  refine ⟨_, z_Reader_countOf, rfl, fun β args k I r hty hlen h => ?_⟩
  unfold W_Reader_countOf at h
  split at h
  · rename_i t0 a0 u1 a1
    obtain ⟨hb0, h⟩ := mB_ok h
    have e0 := Nat.eq_of_beq_eq_true hb0
    have g0 : okB 105 a0 = true := e0 ▸ hty.1
    have e20 := one_105 g0
    subst e20
    obtain ⟨v, I1, h1, h2⟩ := bn_some h
    refine ⟨gf_obj (c := 5) (by decide) g0, rfl, some (0, .int v), I1, trivial, ?_, h2⟩
    exact s_Reader_countOf_0 hcs a1  (Q := fun w I => w = v ∧ I = I1) (fun w I q => by obtain ⟨rfl, rfl⟩ := q; rfl) I v I1 h1 ⟨rfl, rfl⟩
  · cases h
theorem S_Reader_countOf {d : Nat} (hd : 1 ≤ d) : Snd L X d 104 2 (W_Reader_countOf F_Reader_countOf) := by
  obtain ⟨e, rfl⟩ : ∃ e, d = e + 1 := ⟨d - 1, by omega⟩
  exact w_Reader_countOf trivial
set_option maxRecDepth 100000 in
theorem z_Reader_fail : pT[80]? = some (q_Reader_fail, 2, 2, 2, 5) := rfl
def W_Reader_fail (F : Int32 → M Int32) : CSem := fun _ args k => match args with
  | [(t0, .ref a0), (_, .int a1)] => mB (Nat.beq t0 105) <| bn (F a1) fun v => k (some (0, .int v))
  | _ => fl
def cs_Reader_fail : List (Nat × Nat × CSem) := []
def F_Reader_fail (x1 : Int32) : M (Int32) :=
  bn (wr 93 1 x1) fun _ =>
  bn (rd 93 10) fun v1 =>
  bn (ld 401 109 v1) fun v2 =>
  bn (wr 93 2 v2) fun _ =>
  bn (gdZ (0 : Int32)) fun _ => rt (0 : Int32)
set_option maxRecDepth 4000 in
theorem e_s_Reader_fail_0 (x1 : Int32) : wf (β := Int32) L X q_Reader_fail 2 cs_Reader_fail [] [] (fun _ _ _ => fl) (fun v => match v with | some (_, .int x) => rt x | _ => fl) 17 0 [(105, .ref 93), (0, .int x1)] [] = (bn (wr 93 1 x1) fun _ =>
  bn (rd 93 10) fun v1 =>
  bn (ld 401 109 v1) fun v2 =>
  bn (wr 93 2 v2) fun _ =>
  bn (gdZ (0 : Int32)) fun _ => rt (0 : Int32)) := rfl
theorem s_Reader_fail_0 {d : Nat} (hcs : AllS L X d cs_Reader_fail) (x1 : Int32) {o : Option Value × PH} {Q : (Int32) → MI → Prop} (q0 : ∀ v I, Q v I → o = (some (.int v), HH I)) (I : MI) (r : Int32) (I1 : MI) (h : F_Reader_fail x1 I = some (r, I1)) (hq : Q r I1) : At L X (d + 1) 80 0 [(105, .ref 93), (0, .int x1)] [] I o := by
  refine wf_ok z_Reader_fail hcs ?_ ?_ _ _ _ _ _ ⟨rfl, trivial, trivial⟩ trivial (unm_refl _ _) ((congrFun (e_s_Reader_fail_0 (L := L) (X := X) x1) I).trans h)
  · intro pc ls st I2 h1 h2 h3 h
    cases h
  · intro v I2 _ h
    split at h
    · cases h; exact q0 _ _ hq
    · cases h
theorem w_Reader_fail {d : Nat} (hcs : AllS L X d cs_Reader_fail) : Snd L X (d + 1) 80 2 (W_Reader_fail F_Reader_fail) := by
  refine ⟨_, z_Reader_fail, rfl, fun β args k I r hty hlen h => ?_⟩
  unfold W_Reader_fail at h
  split at h
  · rename_i t0 a0 u1 a1
    obtain ⟨hb0, h⟩ := mB_ok h
    have e0 := Nat.eq_of_beq_eq_true hb0
    have g0 : okB 105 a0 = true := e0 ▸ hty.1
    have e20 := one_105 g0
    subst e20
    obtain ⟨v, I1, h1, h2⟩ := bn_some h
    refine ⟨gf_obj (c := 5) (by decide) g0, rfl, some (0, .int v), I1, trivial, ?_, h2⟩
    exact s_Reader_fail_0 hcs a1  (Q := fun w I => w = v ∧ I = I1) (fun w I q => by obtain ⟨rfl, rfl⟩ := q; rfl) I v I1 h1 ⟨rfl, rfl⟩
  · cases h
theorem S_Reader_fail {d : Nat} (hd : 1 ≤ d) : Snd L X d 80 2 (W_Reader_fail F_Reader_fail) := by
  obtain ⟨e, rfl⟩ : ∃ e, d = e + 1 := ⟨d - 1, by omega⟩
  exact w_Reader_fail trivial
set_option maxRecDepth 100000 in
theorem z_Reader_isKeyword : pT[82]? = some (q_Reader_isKeyword, 2, 2, 2, 5) := rfl
def W_Reader_isKeyword (F : Int32 → M Int32) : CSem := fun _ args k => match args with
  | [(t0, .ref a0), (_, .int a1)] => mB (Nat.beq t0 105) <| bn (F a1) fun v => k (some (0, .int v))
  | _ => fl
def cs_Reader_isKeyword : List (Nat × Nat × CSem) := []
def F_Reader_isKeyword (x1 : Int32) : M (Int32) :=
  bn (rd 93 10) fun v1 =>
  bn (ld 401 107 v1) fun v2 =>
  (if v2 = (2 : Int32) then
    bn (rd 93 10) fun v3 =>
    bn (ld 401 108 v3) fun v4 =>
    (if v4 = x1 then
      bn (gdZ (1 : Int32)) fun _ => rt (1 : Int32)
    else
      bn (gdZ (0 : Int32)) fun _ => rt (0 : Int32))
  else
    bn (gdZ (0 : Int32)) fun _ => rt (0 : Int32))
set_option maxRecDepth 4000 in
theorem e_s_Reader_isKeyword_0 (x1 : Int32) : wf (β := Int32) L X q_Reader_isKeyword 2 cs_Reader_isKeyword [] [] (fun _ _ _ => fl) (fun v => match v with | some (_, .int x) => rt x | _ => fl) 23 0 [(105, .ref 93), (0, .int x1)] [] = (bn (rd 93 10) fun v1 =>
  bn (ld 401 107 v1) fun v2 =>
  (if v2 = (2 : Int32) then
    bn (rd 93 10) fun v3 =>
    bn (ld 401 108 v3) fun v4 =>
    (if v4 = x1 then
      bn (gdZ (1 : Int32)) fun _ => rt (1 : Int32)
    else
      bn (gdZ (0 : Int32)) fun _ => rt (0 : Int32))
  else
    bn (gdZ (0 : Int32)) fun _ => rt (0 : Int32))) := rfl
theorem s_Reader_isKeyword_0 {d : Nat} (hcs : AllS L X d cs_Reader_isKeyword) (x1 : Int32) {o : Option Value × PH} {Q : (Int32) → MI → Prop} (q0 : ∀ v I, Q v I → o = (some (.int v), HH I)) (I : MI) (r : Int32) (I1 : MI) (h : F_Reader_isKeyword x1 I = some (r, I1)) (hq : Q r I1) : At L X (d + 1) 82 0 [(105, .ref 93), (0, .int x1)] [] I o := by
  refine wf_ok z_Reader_isKeyword hcs ?_ ?_ _ _ _ _ _ ⟨rfl, trivial, trivial⟩ trivial (unm_refl _ _) ((congrFun (e_s_Reader_isKeyword_0 (L := L) (X := X) x1) I).trans h)
  · intro pc ls st I2 h1 h2 h3 h
    cases h
  · intro v I2 _ h
    split at h
    · cases h; exact q0 _ _ hq
    · cases h
theorem w_Reader_isKeyword {d : Nat} (hcs : AllS L X d cs_Reader_isKeyword) : Snd L X (d + 1) 82 2 (W_Reader_isKeyword F_Reader_isKeyword) := by
  refine ⟨_, z_Reader_isKeyword, rfl, fun β args k I r hty hlen h => ?_⟩
  unfold W_Reader_isKeyword at h
  split at h
  · rename_i t0 a0 u1 a1
    obtain ⟨hb0, h⟩ := mB_ok h
    have e0 := Nat.eq_of_beq_eq_true hb0
    have g0 : okB 105 a0 = true := e0 ▸ hty.1
    have e20 := one_105 g0
    subst e20
    obtain ⟨v, I1, h1, h2⟩ := bn_some h
    refine ⟨gf_obj (c := 5) (by decide) g0, rfl, some (0, .int v), I1, trivial, ?_, h2⟩
    exact s_Reader_isKeyword_0 hcs a1  (Q := fun w I => w = v ∧ I = I1) (fun w I q => by obtain ⟨rfl, rfl⟩ := q; rfl) I v I1 h1 ⟨rfl, rfl⟩
  · cases h
theorem S_Reader_isKeyword {d : Nat} (hd : 1 ≤ d) : Snd L X d 82 2 (W_Reader_isKeyword F_Reader_isKeyword) := by
  obtain ⟨e, rfl⟩ : ∃ e, d = e + 1 := ⟨d - 1, by omega⟩
  exact w_Reader_isKeyword trivial
set_option maxRecDepth 100000 in
theorem z_Reader_step : pT[84]? = some (q_Reader_step, 1, 1, 0, 5) := rfl
def W_Reader_step (F : M Unit) : CSem := fun _ args k => match args with
  | [(t0, .ref a0)] => mB (Nat.beq t0 105) <| bn (F) fun _ => k none
  | _ => fl
def cs_Reader_step : List (Nat × Nat × CSem) := []
def F_Reader_step : M (Unit) :=
  bn (rd 93 10) fun v1 =>
  bn (rd 93 9) fun v2 =>
  (if v1 < (v2 - (1 : Int32)) then
    bn (rd 93 10) fun v3 =>
    bn (wr 93 10 (v3 + (1 : Int32))) fun _ =>
    rt ()
  else
    rt ())
set_option maxRecDepth 4000 in
theorem e_s_Reader_step_0 : wf (β := Unit) L X q_Reader_step 0 cs_Reader_step [] [] (fun _ _ _ => fl) (fun v => match v with | none => rt () | _ => fl) 19 0 [(105, .ref 93)] [] = (bn (rd 93 10) fun v1 =>
  bn (rd 93 9) fun v2 =>
  (if v1 < (v2 - (1 : Int32)) then
    bn (rd 93 10) fun v3 =>
    bn (wr 93 10 (v3 + (1 : Int32))) fun _ =>
    rt ()
  else
    rt ())) := rfl
theorem s_Reader_step_0 {d : Nat} (hcs : AllS L X d cs_Reader_step) {o : Option Value × PH} {Q : (Unit) → MI → Prop} (q0 : ∀ v I, Q v I → o = (none, HH I)) (I : MI) (r : Unit) (I1 : MI) (h : F_Reader_step I = some (r, I1)) (hq : Q r I1) : At L X (d + 1) 84 0 [(105, .ref 93)] [] I o := by
  refine wf_ok z_Reader_step hcs ?_ ?_ _ _ _ _ _ ⟨rfl, trivial⟩ trivial (unm_refl _ _) ((congrFun (e_s_Reader_step_0 (L := L) (X := X)) I).trans h)
  · intro pc ls st I2 h1 h2 h3 h
    cases h
  · intro v I2 _ h
    split at h
    · cases h; exact q0 _ _ hq
    · cases h
theorem w_Reader_step {d : Nat} (hcs : AllS L X d cs_Reader_step) : Snd L X (d + 1) 84 1 (W_Reader_step F_Reader_step) := by
  refine ⟨_, z_Reader_step, rfl, fun β args k I r hty hlen h => ?_⟩
  unfold W_Reader_step at h
  split at h
  · rename_i t0 a0
    obtain ⟨hb0, h⟩ := mB_ok h
    have e0 := Nat.eq_of_beq_eq_true hb0
    have g0 : okB 105 a0 = true := e0 ▸ hty.1
    have e20 := one_105 g0
    subst e20
    obtain ⟨v, I1, h1, h2⟩ := bn_some h
    refine ⟨gf_obj (c := 5) (by decide) g0, rfl, none, I1, trivial, ?_, h2⟩
    exact s_Reader_step_0 hcs   (Q := fun w I => w = v ∧ I = I1) (fun w I q => by obtain ⟨rfl, rfl⟩ := q; rfl) I v I1 h1 ⟨rfl, rfl⟩
  · cases h
theorem S_Reader_step {d : Nat} (hd : 1 ≤ d) : Snd L X d 84 1 (W_Reader_step F_Reader_step) := by
  obtain ⟨e, rfl⟩ : ∃ e, d = e + 1 := ⟨d - 1, by omega⟩
  exact w_Reader_step trivial
set_option maxRecDepth 100000 in
theorem z_Reader_opensLine : pT[81]? = some (q_Reader_opensLine, 3, 3, 2, 5) := rfl
def W_Reader_opensLine (F : Int32 → Nat → M Int32) : CSem := fun _ args k => match args with
  | [(t0, .ref a0), (_, .int a1), (t2, .ref a2)] => mB (Nat.beq t0 105) <| mB (Nat.beq t2 108) <| bn (F a1 a2) fun v => k (some (0, .int v))
  | _ => fl
def cs_Reader_opensLine (f_Reader_fail : Int32 → M Int32) (f_Reader_isKeyword : Int32 → M Int32) (f_Reader_step : M Unit) (f_Table_isFull : Nat → M Int32) : List (Nat × Nat × CSem) := [(80, 2, W_Reader_fail f_Reader_fail), (82, 2, W_Reader_isKeyword f_Reader_isKeyword), (84, 1, W_Reader_step f_Reader_step), (83, 1, W_Table_isFull f_Table_isFull)]
def F_Reader_opensLine (x1 : Int32) (r2 : Nat) : M (Int32) :=
  bn (F_Reader_isKeyword x1) fun v1 =>
  (if v1 = 0 then
    bn (F_Reader_fail (1 : Int32)) fun v4 =>
    bn (gdZ v4) fun _ => rt v4
  else
    bn (F_Table_isFull r2) fun v2 =>
    (if v2 = 0 then
      bn (F_Reader_step) fun _ =>
      bn (gdZ (1 : Int32)) fun _ => rt (1 : Int32)
    else
      bn (F_Reader_fail (3 : Int32)) fun v3 =>
      bn (gdZ v3) fun _ => rt v3))
set_option maxRecDepth 4000 in
theorem e_s_Reader_opensLine_0 (f_Reader_fail : Int32 → M Int32) (f_Reader_isKeyword : Int32 → M Int32) (f_Reader_step : M Unit) (f_Table_isFull : Nat → M Int32) (x1 : Int32) (r2 : Nat) : wf (β := Int32) L X q_Reader_opensLine 2 (cs_Reader_opensLine f_Reader_fail f_Reader_isKeyword f_Reader_step f_Table_isFull) [] [] (fun _ _ _ => fl) (fun v => match v with | some (_, .int x) => rt x | _ => fl) 24 0 [(105, .ref 93), (0, .int x1), (108, .ref r2)] [] = (bn (f_Reader_isKeyword x1) fun v1 =>
  (if v1 = 0 then
    bn (f_Reader_fail (1 : Int32)) fun v4 =>
    bn (gdZ v4) fun _ => rt v4
  else
    bn (f_Table_isFull r2) fun v2 =>
    (if v2 = 0 then
      bn (f_Reader_step) fun _ =>
      bn (gdZ (1 : Int32)) fun _ => rt (1 : Int32)
    else
      bn (f_Reader_fail (3 : Int32)) fun v3 =>
      bn (gdZ v3) fun _ => rt v3))) := rfl
theorem s_Reader_opensLine_0 {d : Nat} (hcs : AllS L X d (cs_Reader_opensLine F_Reader_fail F_Reader_isKeyword F_Reader_step F_Table_isFull)) (x1 : Int32) (r2 : Nat) (t2 : okB 108 r2 = true) {o : Option Value × PH} {Q : (Int32) → MI → Prop} (q0 : ∀ v I, Q v I → o = (some (.int v), HH I)) (I : MI) (r : Int32) (I1 : MI) (h : F_Reader_opensLine x1 r2 I = some (r, I1)) (hq : Q r I1) : At L X (d + 1) 81 0 [(105, .ref 93), (0, .int x1), (108, .ref r2)] [] I o := by
  refine wf_ok z_Reader_opensLine hcs ?_ ?_ _ _ _ _ _ ⟨rfl, trivial, t2, trivial⟩ trivial (unm_refl _ _) ((congrFun (e_s_Reader_opensLine_0 (L := L) (X := X) F_Reader_fail F_Reader_isKeyword F_Reader_step F_Table_isFull x1 r2) I).trans h)
  · intro pc ls st I2 h1 h2 h3 h
    cases h
  · intro v I2 _ h
    split at h
    · cases h; exact q0 _ _ hq
    · cases h
theorem w_Reader_opensLine {d : Nat} (hcs : AllS L X d (cs_Reader_opensLine F_Reader_fail F_Reader_isKeyword F_Reader_step F_Table_isFull)) : Snd L X (d + 1) 81 3 (W_Reader_opensLine F_Reader_opensLine) := by
  refine ⟨_, z_Reader_opensLine, rfl, fun β args k I r hty hlen h => ?_⟩
  unfold W_Reader_opensLine at h
  split at h
  · rename_i t0 a0 u1 a1 t2 a2
    obtain ⟨hb0, h⟩ := mB_ok h
    have e0 := Nat.eq_of_beq_eq_true hb0
    have g0 : okB 105 a0 = true := e0 ▸ hty.1
    have e20 := one_105 g0
    subst e20
    obtain ⟨hb2, h⟩ := mB_ok h
    have e2 := Nat.eq_of_beq_eq_true hb2
    have g2 : okB 108 a2 = true := e2 ▸ hty.2.2.1
    obtain ⟨v, I1, h1, h2⟩ := bn_some h
    refine ⟨gf_obj (c := 5) (by decide) g0, rfl, some (0, .int v), I1, trivial, ?_, h2⟩
    exact s_Reader_opensLine_0 hcs a1 a2 g2 (Q := fun w I => w = v ∧ I = I1) (fun w I q => by obtain ⟨rfl, rfl⟩ := q; rfl) I v I1 h1 ⟨rfl, rfl⟩
  · cases h
theorem S_Reader_opensLine {d : Nat} (hd : 2 ≤ d) : Snd L X d 81 3 (W_Reader_opensLine F_Reader_opensLine) := by
  obtain ⟨e, rfl⟩ : ∃ e, d = e + 1 := ⟨d - 1, by omega⟩
  exact w_Reader_opensLine ⟨S_Reader_fail (by omega), S_Reader_isKeyword (by omega), S_Reader_step (by omega), S_Table_isFull (by omega), trivial⟩
set_option maxRecDepth 100000 in
theorem z_Reader_stepKeyword : pT[102]? = some (q_Reader_stepKeyword, 2, 2, 2, 5) := rfl
def W_Reader_stepKeyword (F : Int32 → M Int32) : CSem := fun _ args k => match args with
  | [(t0, .ref a0), (_, .int a1)] => mB (Nat.beq t0 105) <| bn (F a1) fun v => k (some (0, .int v))
  | _ => fl
def cs_Reader_stepKeyword (f_Reader_fail : Int32 → M Int32) (f_Reader_isKeyword : Int32 → M Int32) (f_Reader_step : M Unit) : List (Nat × Nat × CSem) := [(80, 2, W_Reader_fail f_Reader_fail), (82, 2, W_Reader_isKeyword f_Reader_isKeyword), (84, 1, W_Reader_step f_Reader_step)]
def F_Reader_stepKeyword (x1 : Int32) : M (Int32) :=
  bn (F_Reader_isKeyword x1) fun v1 =>
  (if v1 = 0 then
    bn (F_Reader_fail (1 : Int32)) fun v2 =>
    bn (gdZ v2) fun _ => rt v2
  else
    bn (F_Reader_step) fun _ =>
    bn (gdZ (1 : Int32)) fun _ => rt (1 : Int32))
set_option maxRecDepth 4000 in
theorem e_s_Reader_stepKeyword_0 (f_Reader_fail : Int32 → M Int32) (f_Reader_isKeyword : Int32 → M Int32) (f_Reader_step : M Unit) (x1 : Int32) : wf (β := Int32) L X q_Reader_stepKeyword 2 (cs_Reader_stepKeyword f_Reader_fail f_Reader_isKeyword f_Reader_step) [] [] (fun _ _ _ => fl) (fun v => match v with | some (_, .int x) => rt x | _ => fl) 17 0 [(105, .ref 93), (0, .int x1)] [] = (bn (f_Reader_isKeyword x1) fun v1 =>
  (if v1 = 0 then
    bn (f_Reader_fail (1 : Int32)) fun v2 =>
    bn (gdZ v2) fun _ => rt v2
  else
    bn (f_Reader_step) fun _ =>
    bn (gdZ (1 : Int32)) fun _ => rt (1 : Int32))) := rfl
theorem s_Reader_stepKeyword_0 {d : Nat} (hcs : AllS L X d (cs_Reader_stepKeyword F_Reader_fail F_Reader_isKeyword F_Reader_step)) (x1 : Int32) {o : Option Value × PH} {Q : (Int32) → MI → Prop} (q0 : ∀ v I, Q v I → o = (some (.int v), HH I)) (I : MI) (r : Int32) (I1 : MI) (h : F_Reader_stepKeyword x1 I = some (r, I1)) (hq : Q r I1) : At L X (d + 1) 102 0 [(105, .ref 93), (0, .int x1)] [] I o := by
  refine wf_ok z_Reader_stepKeyword hcs ?_ ?_ _ _ _ _ _ ⟨rfl, trivial, trivial⟩ trivial (unm_refl _ _) ((congrFun (e_s_Reader_stepKeyword_0 (L := L) (X := X) F_Reader_fail F_Reader_isKeyword F_Reader_step x1) I).trans h)
  · intro pc ls st I2 h1 h2 h3 h
    cases h
  · intro v I2 _ h
    split at h
    · cases h; exact q0 _ _ hq
    · cases h
theorem w_Reader_stepKeyword {d : Nat} (hcs : AllS L X d (cs_Reader_stepKeyword F_Reader_fail F_Reader_isKeyword F_Reader_step)) : Snd L X (d + 1) 102 2 (W_Reader_stepKeyword F_Reader_stepKeyword) := by
  refine ⟨_, z_Reader_stepKeyword, rfl, fun β args k I r hty hlen h => ?_⟩
  unfold W_Reader_stepKeyword at h
  split at h
  · rename_i t0 a0 u1 a1
    obtain ⟨hb0, h⟩ := mB_ok h
    have e0 := Nat.eq_of_beq_eq_true hb0
    have g0 : okB 105 a0 = true := e0 ▸ hty.1
    have e20 := one_105 g0
    subst e20
    obtain ⟨v, I1, h1, h2⟩ := bn_some h
    refine ⟨gf_obj (c := 5) (by decide) g0, rfl, some (0, .int v), I1, trivial, ?_, h2⟩
    exact s_Reader_stepKeyword_0 hcs a1  (Q := fun w I => w = v ∧ I = I1) (fun w I q => by obtain ⟨rfl, rfl⟩ := q; rfl) I v I1 h1 ⟨rfl, rfl⟩
  · cases h
theorem S_Reader_stepKeyword {d : Nat} (hd : 2 ≤ d) : Snd L X d 102 2 (W_Reader_stepKeyword F_Reader_stepKeyword) := by
  obtain ⟨e, rfl⟩ : ∃ e, d = e + 1 := ⟨d - 1, by omega⟩
  exact w_Reader_stepKeyword ⟨S_Reader_fail (by omega), S_Reader_isKeyword (by omega), S_Reader_step (by omega), trivial⟩
set_option maxRecDepth 100000 in
theorem z_Reader_stepNumber : pT[101]? = some (q_Reader_stepNumber, 3, 3, 2, 5) := rfl
def W_Reader_stepNumber (F : Int32 → Int32 → M Int32) : CSem := fun _ args k => match args with
  | [(t0, .ref a0), (_, .int a1), (_, .int a2)] => mB (Nat.beq t0 105) <| bn (F a1 a2) fun v => k (some (0, .int v))
  | _ => fl
def cs_Reader_stepNumber (f_A_within : Int32 → Int32 → Int32 → M Int32) (f_Reader_fail : Int32 → M Int32) (f_Reader_step : M Unit) : List (Nat × Nat × CSem) := [(18, 3, W_A_within f_A_within), (80, 2, W_Reader_fail f_Reader_fail), (84, 1, W_Reader_step f_Reader_step)]
def F_Reader_stepNumber (x1 : Int32) (x2 : Int32) : M (Int32) :=
  bn (rd 93 10) fun v1 =>
  bn (ld 401 107 v1) fun v2 =>
  (if v2 = (3 : Int32) then
    bn (rd 93 10) fun v3 =>
    bn (ld 401 108 v3) fun v4 =>
    bn (wr 93 11 v4) fun _ =>
    bn (rd 93 11) fun v5 =>
    bn (F_A_within v5 x1 x2) fun v6 =>
    (if v6 = 0 then
      bn (F_Reader_fail (2 : Int32)) fun v7 =>
      bn (gdZ v7) fun _ => rt v7
    else
      bn (F_Reader_step) fun _ =>
      bn (gdZ (1 : Int32)) fun _ => rt (1 : Int32))
  else
    bn (F_Reader_fail (1 : Int32)) fun v8 =>
    bn (gdZ v8) fun _ => rt v8)
set_option maxRecDepth 4000 in
theorem e_s_Reader_stepNumber_0 (f_A_within : Int32 → Int32 → Int32 → M Int32) (f_Reader_fail : Int32 → M Int32) (f_Reader_step : M Unit) (x1 : Int32) (x2 : Int32) : wf (β := Int32) L X q_Reader_stepNumber 2 (cs_Reader_stepNumber f_A_within f_Reader_fail f_Reader_step) [] [] (fun _ _ _ => fl) (fun v => match v with | some (_, .int x) => rt x | _ => fl) 37 0 [(105, .ref 93), (0, .int x1), (0, .int x2)] [] = (bn (rd 93 10) fun v1 =>
  bn (ld 401 107 v1) fun v2 =>
  (if v2 = (3 : Int32) then
    bn (rd 93 10) fun v3 =>
    bn (ld 401 108 v3) fun v4 =>
    bn (wr 93 11 v4) fun _ =>
    bn (rd 93 11) fun v5 =>
    bn (f_A_within v5 x1 x2) fun v6 =>
    (if v6 = 0 then
      bn (f_Reader_fail (2 : Int32)) fun v7 =>
      bn (gdZ v7) fun _ => rt v7
    else
      bn (f_Reader_step) fun _ =>
      bn (gdZ (1 : Int32)) fun _ => rt (1 : Int32))
  else
    bn (f_Reader_fail (1 : Int32)) fun v8 =>
    bn (gdZ v8) fun _ => rt v8)) := rfl
theorem s_Reader_stepNumber_0 {d : Nat} (hcs : AllS L X d (cs_Reader_stepNumber F_A_within F_Reader_fail F_Reader_step)) (x1 : Int32) (x2 : Int32) {o : Option Value × PH} {Q : (Int32) → MI → Prop} (q0 : ∀ v I, Q v I → o = (some (.int v), HH I)) (I : MI) (r : Int32) (I1 : MI) (h : F_Reader_stepNumber x1 x2 I = some (r, I1)) (hq : Q r I1) : At L X (d + 1) 101 0 [(105, .ref 93), (0, .int x1), (0, .int x2)] [] I o := by
  refine wf_ok z_Reader_stepNumber hcs ?_ ?_ _ _ _ _ _ ⟨rfl, trivial, trivial, trivial⟩ trivial (unm_refl _ _) ((congrFun (e_s_Reader_stepNumber_0 (L := L) (X := X) F_A_within F_Reader_fail F_Reader_step x1 x2) I).trans h)
  · intro pc ls st I2 h1 h2 h3 h
    cases h
  · intro v I2 _ h
    split at h
    · cases h; exact q0 _ _ hq
    · cases h
theorem w_Reader_stepNumber {d : Nat} (hcs : AllS L X d (cs_Reader_stepNumber F_A_within F_Reader_fail F_Reader_step)) : Snd L X (d + 1) 101 3 (W_Reader_stepNumber F_Reader_stepNumber) := by
  refine ⟨_, z_Reader_stepNumber, rfl, fun β args k I r hty hlen h => ?_⟩
  unfold W_Reader_stepNumber at h
  split at h
  · rename_i t0 a0 u1 a1 u2 a2
    obtain ⟨hb0, h⟩ := mB_ok h
    have e0 := Nat.eq_of_beq_eq_true hb0
    have g0 : okB 105 a0 = true := e0 ▸ hty.1
    have e20 := one_105 g0
    subst e20
    obtain ⟨v, I1, h1, h2⟩ := bn_some h
    refine ⟨gf_obj (c := 5) (by decide) g0, rfl, some (0, .int v), I1, trivial, ?_, h2⟩
    exact s_Reader_stepNumber_0 hcs a1 a2  (Q := fun w I => w = v ∧ I = I1) (fun w I q => by obtain ⟨rfl, rfl⟩ := q; rfl) I v I1 h1 ⟨rfl, rfl⟩
  · cases h
theorem S_Reader_stepNumber {d : Nat} (hd : 2 ≤ d) : Snd L X d 101 3 (W_Reader_stepNumber F_Reader_stepNumber) := by
  obtain ⟨e, rfl⟩ : ∃ e, d = e + 1 := ⟨d - 1, by omega⟩
  exact w_Reader_stepNumber ⟨S_A_within (by omega), S_Reader_fail (by omega), S_Reader_step (by omega), trivial⟩
set_option maxRecDepth 100000 in
theorem z_Reader_isSign : pT[89]? = some (q_Reader_isSign, 2, 2, 2, 5) := rfl
def W_Reader_isSign (F : Int32 → M Int32) : CSem := fun _ args k => match args with
  | [(t0, .ref a0), (_, .int a1)] => mB (Nat.beq t0 105) <| bn (F a1) fun v => k (some (0, .int v))
  | _ => fl
def cs_Reader_isSign : List (Nat × Nat × CSem) := []
def F_Reader_isSign (x1 : Int32) : M (Int32) :=
  bn (rd 93 10) fun v1 =>
  bn (ld 401 107 v1) fun v2 =>
  (if v2 = (4 : Int32) then
    bn (rd 93 10) fun v3 =>
    bn (ld 401 108 v3) fun v4 =>
    (if v4 = x1 then
      bn (gdZ (1 : Int32)) fun _ => rt (1 : Int32)
    else
      bn (gdZ (0 : Int32)) fun _ => rt (0 : Int32))
  else
    bn (gdZ (0 : Int32)) fun _ => rt (0 : Int32))
set_option maxRecDepth 4000 in
theorem e_s_Reader_isSign_0 (x1 : Int32) : wf (β := Int32) L X q_Reader_isSign 2 cs_Reader_isSign [] [] (fun _ _ _ => fl) (fun v => match v with | some (_, .int x) => rt x | _ => fl) 23 0 [(105, .ref 93), (0, .int x1)] [] = (bn (rd 93 10) fun v1 =>
  bn (ld 401 107 v1) fun v2 =>
  (if v2 = (4 : Int32) then
    bn (rd 93 10) fun v3 =>
    bn (ld 401 108 v3) fun v4 =>
    (if v4 = x1 then
      bn (gdZ (1 : Int32)) fun _ => rt (1 : Int32)
    else
      bn (gdZ (0 : Int32)) fun _ => rt (0 : Int32))
  else
    bn (gdZ (0 : Int32)) fun _ => rt (0 : Int32))) := rfl
theorem s_Reader_isSign_0 {d : Nat} (hcs : AllS L X d cs_Reader_isSign) (x1 : Int32) {o : Option Value × PH} {Q : (Int32) → MI → Prop} (q0 : ∀ v I, Q v I → o = (some (.int v), HH I)) (I : MI) (r : Int32) (I1 : MI) (h : F_Reader_isSign x1 I = some (r, I1)) (hq : Q r I1) : At L X (d + 1) 89 0 [(105, .ref 93), (0, .int x1)] [] I o := by
  refine wf_ok z_Reader_isSign hcs ?_ ?_ _ _ _ _ _ ⟨rfl, trivial, trivial⟩ trivial (unm_refl _ _) ((congrFun (e_s_Reader_isSign_0 (L := L) (X := X) x1) I).trans h)
  · intro pc ls st I2 h1 h2 h3 h
    cases h
  · intro v I2 _ h
    split at h
    · cases h; exact q0 _ _ hq
    · cases h
theorem w_Reader_isSign {d : Nat} (hcs : AllS L X d cs_Reader_isSign) : Snd L X (d + 1) 89 2 (W_Reader_isSign F_Reader_isSign) := by
  refine ⟨_, z_Reader_isSign, rfl, fun β args k I r hty hlen h => ?_⟩
  unfold W_Reader_isSign at h
  split at h
  · rename_i t0 a0 u1 a1
    obtain ⟨hb0, h⟩ := mB_ok h
    have e0 := Nat.eq_of_beq_eq_true hb0
    have g0 : okB 105 a0 = true := e0 ▸ hty.1
    have e20 := one_105 g0
    subst e20
    obtain ⟨v, I1, h1, h2⟩ := bn_some h
    refine ⟨gf_obj (c := 5) (by decide) g0, rfl, some (0, .int v), I1, trivial, ?_, h2⟩
    exact s_Reader_isSign_0 hcs a1  (Q := fun w I => w = v ∧ I = I1) (fun w I q => by obtain ⟨rfl, rfl⟩ := q; rfl) I v I1 h1 ⟨rfl, rfl⟩
  · cases h
theorem S_Reader_isSign {d : Nat} (hd : 1 ≤ d) : Snd L X d 89 2 (W_Reader_isSign F_Reader_isSign) := by
  obtain ⟨e, rfl⟩ : ∃ e, d = e + 1 := ⟨d - 1, by omega⟩
  exact w_Reader_isSign trivial
set_option maxRecDepth 100000 in
theorem z_Reader_stepSign : pT[96]? = some (q_Reader_stepSign, 2, 2, 2, 5) := rfl
def W_Reader_stepSign (F : Int32 → M Int32) : CSem := fun _ args k => match args with
  | [(t0, .ref a0), (_, .int a1)] => mB (Nat.beq t0 105) <| bn (F a1) fun v => k (some (0, .int v))
  | _ => fl
def cs_Reader_stepSign (f_Reader_fail : Int32 → M Int32) (f_Reader_isSign : Int32 → M Int32) (f_Reader_step : M Unit) : List (Nat × Nat × CSem) := [(80, 2, W_Reader_fail f_Reader_fail), (89, 2, W_Reader_isSign f_Reader_isSign), (84, 1, W_Reader_step f_Reader_step)]
def F_Reader_stepSign (x1 : Int32) : M (Int32) :=
  bn (F_Reader_isSign x1) fun v1 =>
  (if v1 = 0 then
    bn (F_Reader_fail (1 : Int32)) fun v2 =>
    bn (gdZ v2) fun _ => rt v2
  else
    bn (F_Reader_step) fun _ =>
    bn (gdZ (1 : Int32)) fun _ => rt (1 : Int32))
set_option maxRecDepth 4000 in
theorem e_s_Reader_stepSign_0 (f_Reader_fail : Int32 → M Int32) (f_Reader_isSign : Int32 → M Int32) (f_Reader_step : M Unit) (x1 : Int32) : wf (β := Int32) L X q_Reader_stepSign 2 (cs_Reader_stepSign f_Reader_fail f_Reader_isSign f_Reader_step) [] [] (fun _ _ _ => fl) (fun v => match v with | some (_, .int x) => rt x | _ => fl) 17 0 [(105, .ref 93), (0, .int x1)] [] = (bn (f_Reader_isSign x1) fun v1 =>
  (if v1 = 0 then
    bn (f_Reader_fail (1 : Int32)) fun v2 =>
    bn (gdZ v2) fun _ => rt v2
  else
    bn (f_Reader_step) fun _ =>
    bn (gdZ (1 : Int32)) fun _ => rt (1 : Int32))) := rfl
theorem s_Reader_stepSign_0 {d : Nat} (hcs : AllS L X d (cs_Reader_stepSign F_Reader_fail F_Reader_isSign F_Reader_step)) (x1 : Int32) {o : Option Value × PH} {Q : (Int32) → MI → Prop} (q0 : ∀ v I, Q v I → o = (some (.int v), HH I)) (I : MI) (r : Int32) (I1 : MI) (h : F_Reader_stepSign x1 I = some (r, I1)) (hq : Q r I1) : At L X (d + 1) 96 0 [(105, .ref 93), (0, .int x1)] [] I o := by
  refine wf_ok z_Reader_stepSign hcs ?_ ?_ _ _ _ _ _ ⟨rfl, trivial, trivial⟩ trivial (unm_refl _ _) ((congrFun (e_s_Reader_stepSign_0 (L := L) (X := X) F_Reader_fail F_Reader_isSign F_Reader_step x1) I).trans h)
  · intro pc ls st I2 h1 h2 h3 h
    cases h
  · intro v I2 _ h
    split at h
    · cases h; exact q0 _ _ hq
    · cases h
theorem w_Reader_stepSign {d : Nat} (hcs : AllS L X d (cs_Reader_stepSign F_Reader_fail F_Reader_isSign F_Reader_step)) : Snd L X (d + 1) 96 2 (W_Reader_stepSign F_Reader_stepSign) := by
  refine ⟨_, z_Reader_stepSign, rfl, fun β args k I r hty hlen h => ?_⟩
  unfold W_Reader_stepSign at h
  split at h
  · rename_i t0 a0 u1 a1
    obtain ⟨hb0, h⟩ := mB_ok h
    have e0 := Nat.eq_of_beq_eq_true hb0
    have g0 : okB 105 a0 = true := e0 ▸ hty.1
    have e20 := one_105 g0
    subst e20
    obtain ⟨v, I1, h1, h2⟩ := bn_some h
    refine ⟨gf_obj (c := 5) (by decide) g0, rfl, some (0, .int v), I1, trivial, ?_, h2⟩
    exact s_Reader_stepSign_0 hcs a1  (Q := fun w I => w = v ∧ I = I1) (fun w I q => by obtain ⟨rfl, rfl⟩ := q; rfl) I v I1 h1 ⟨rfl, rfl⟩
  · cases h
theorem S_Reader_stepSign {d : Nat} (hd : 2 ≤ d) : Snd L X d 96 2 (W_Reader_stepSign F_Reader_stepSign) := by
  obtain ⟨e, rfl⟩ : ∃ e, d = e + 1 := ⟨d - 1, by omega⟩
  exact w_Reader_stepSign ⟨S_Reader_fail (by omega), S_Reader_isSign (by omega), S_Reader_step (by omega), trivial⟩
set_option maxRecDepth 100000 in
theorem z_Reader_diaryLine : pT[103]? = some (q_Reader_diaryLine, 1, 6, 2, 5) := rfl
def W_Reader_diaryLine (F : M Int32) : CSem := fun _ args k => match args with
  | [(t0, .ref a0)] => mB (Nat.beq t0 105) <| bn (F) fun v => k (some (0, .int v))
  | _ => fl
def cs_Reader_diaryLine (f_Reader_countOf : Int32 → M Int32) (f_Reader_fail : Int32 → M Int32) (f_Reader_opensLine : Int32 → Nat → M Int32) (f_Reader_step : M Unit) (f_Reader_stepKeyword : Int32 → M Int32) (f_Reader_stepNumber : Int32 → Int32 → M Int32) (f_Reader_stepSign : Int32 → M Int32) (f_Table_putWide : Nat → Int32 → Int32 → Int32 → Int32 → Int32 → M Int32) : List (Nat × Nat × CSem) := [(104, 2, W_Reader_countOf f_Reader_countOf), (80, 2, W_Reader_fail f_Reader_fail), (81, 3, W_Reader_opensLine f_Reader_opensLine), (84, 1, W_Reader_step f_Reader_step), (102, 2, W_Reader_stepKeyword f_Reader_stepKeyword), (101, 3, W_Reader_stepNumber f_Reader_stepNumber), (96, 2, W_Reader_stepSign f_Reader_stepSign), (98, 6, W_Table_putWide f_Table_putWide)]
def K_Reader_diaryLine_189 (x1 : Int32) (x2 : Int32) (x3 : Int32) (x4 : Int32) : M (Int32) :=
  bn (rd 93 11) fun v1 =>
  bn (F_Reader_stepSign (59 : Int32)) fun v2 =>
  (if v2 = 0 then
    bn (gdZ (0 : Int32)) fun _ => rt (0 : Int32)
  else
    bn (F_Table_putWide 102 x1 x2 x3 x4 v1) fun v3 =>
    bn (gdZ (1 : Int32)) fun _ => rt (1 : Int32))
set_option maxRecDepth 4000 in
theorem e_s_Reader_diaryLine_189 (f_Reader_countOf : Int32 → M Int32) (f_Reader_fail : Int32 → M Int32) (f_Reader_opensLine : Int32 → Nat → M Int32) (f_Reader_step : M Unit) (f_Reader_stepKeyword : Int32 → M Int32) (f_Reader_stepNumber : Int32 → Int32 → M Int32) (f_Reader_stepSign : Int32 → M Int32) (f_Table_putWide : Nat → Int32 → Int32 → Int32 → Int32 → Int32 → M Int32) (x1 : Int32) (x2 : Int32) (x3 : Int32) (x4 : Int32) : wf (β := Int32) L X q_Reader_diaryLine 2 (cs_Reader_diaryLine f_Reader_countOf f_Reader_fail f_Reader_opensLine f_Reader_step f_Reader_stepKeyword f_Reader_stepNumber f_Reader_stepSign f_Table_putWide) [5] [117, 189] (fun _ _ _ => fl) (fun v => match v with | some (_, .int x) => rt x | _ => fl) 127 189 [(105, .ref 93), (0, .int x1), (0, .int x2), (0, .int x3), (0, .int x4), (0, dV)] [] = (bn (rd 93 11) fun v1 =>
  bn (f_Reader_stepSign (59 : Int32)) fun v2 =>
  (if v2 = 0 then
    bn (gdZ (0 : Int32)) fun _ => rt (0 : Int32)
  else
    bn (f_Table_putWide 102 x1 x2 x3 x4 v1) fun v3 =>
    bn (gdZ (1 : Int32)) fun _ => rt (1 : Int32))) := rfl
theorem s_Reader_diaryLine_189 {d : Nat} (hcs : AllS L X d (cs_Reader_diaryLine F_Reader_countOf F_Reader_fail F_Reader_opensLine F_Reader_step F_Reader_stepKeyword F_Reader_stepNumber F_Reader_stepSign F_Table_putWide)) (x1 : Int32) (x2 : Int32) (x3 : Int32) (x4 : Int32) {o : Option Value × PH} {Q : (Int32) → MI → Prop} (q0 : ∀ v I, Q v I → o = (some (.int v), HH I)) (I : MI) (r : Int32) (I1 : MI) (h : K_Reader_diaryLine_189 x1 x2 x3 x4 I = some (r, I1)) (hq : Q r I1) : At L X (d + 1) 103 189 [(105, .ref 93), (0, .int x1), (0, .int x2), (0, .int x3), (0, .int x4), (0, dV)] [] I o := by
  refine wf_ok z_Reader_diaryLine hcs ?_ ?_ _ _ _ _ _ ⟨rfl, trivial, trivial, trivial, trivial, trivial, trivial⟩ trivial (unm_refl _ _) ((congrFun (e_s_Reader_diaryLine_189 (L := L) (X := X) F_Reader_countOf F_Reader_fail F_Reader_opensLine F_Reader_step F_Reader_stepKeyword F_Reader_stepNumber F_Reader_stepSign F_Table_putWide x1 x2 x3 x4) I).trans h)
  · intro pc ls st I2 h1 h2 h3 h
    cases h
  · intro v I2 _ h
    split at h
    · cases h; exact q0 _ _ hq
    · cases h
def K_Reader_diaryLine_117 (x1 : Int32) (x2 : Int32) (x3 : Int32) : M (Int32) :=
  bn (F_Reader_step) fun _ =>
  bn (F_Reader_countOf x3) fun v1 =>
  bn (F_Reader_stepNumber (0 : Int32) (v1 - (1 : Int32))) fun v2 =>
  (if v2 = 0 then
    bn (gdZ (0 : Int32)) fun _ => rt (0 : Int32)
  else
    bn (rd 93 11) fun v3 =>
    bn (wr 93 11 (0 : Int32)) fun _ =>
    (if x3 = (24 : Int32) then
      K_Reader_diaryLine_189 x1 x2 x3 v3
    else
      (if x3 = (23 : Int32) then
        (if x3 = (23 : Int32) then
          bn (F_Reader_stepNumber (1 : Int32) (999 : Int32)) fun v7 =>
          (if v7 = 0 then
            bn (gdZ (0 : Int32)) fun _ => rt (0 : Int32)
          else
            K_Reader_diaryLine_189 x1 x2 x3 v3)
        else
          bn (F_Reader_stepNumber (1 : Int32) (9 : Int32)) fun v6 =>
          (if v6 = 0 then
            bn (gdZ (0 : Int32)) fun _ => rt (0 : Int32)
          else
            K_Reader_diaryLine_189 x1 x2 x3 v3))
      else
        (if x3 = (23 : Int32) then
          bn (F_Reader_stepNumber (0 : Int32) (999 : Int32)) fun v5 =>
          (if v5 = 0 then
            bn (gdZ (0 : Int32)) fun _ => rt (0 : Int32)
          else
            K_Reader_diaryLine_189 x1 x2 x3 v3)
        else
          bn (F_Reader_stepNumber (0 : Int32) (9 : Int32)) fun v4 =>
          (if v4 = 0 then
            bn (gdZ (0 : Int32)) fun _ => rt (0 : Int32)
          else
            K_Reader_diaryLine_189 x1 x2 x3 v3)))))
set_option maxRecDepth 4000 in
theorem e_s_Reader_diaryLine_117 (f_Reader_countOf : Int32 → M Int32) (f_Reader_fail : Int32 → M Int32) (f_Reader_opensLine : Int32 → Nat → M Int32) (f_Reader_step : M Unit) (f_Reader_stepKeyword : Int32 → M Int32) (f_Reader_stepNumber : Int32 → Int32 → M Int32) (f_Reader_stepSign : Int32 → M Int32) (f_Table_putWide : Nat → Int32 → Int32 → Int32 → Int32 → Int32 → M Int32) (k_189 : Int32 → Int32 → Int32 → Int32 → M (Int32)) (x1 : Int32) (x2 : Int32) (x3 : Int32) : wf (β := Int32) L X q_Reader_diaryLine 2 (cs_Reader_diaryLine f_Reader_countOf f_Reader_fail f_Reader_opensLine f_Reader_step f_Reader_stepKeyword f_Reader_stepNumber f_Reader_stepSign f_Table_putWide) [4] [117, 189] (fun pc ls st => mC (Nat.beq pc 189) (mN st <| gI ls 4 fun a4 => gD ls 5 <| k_189 x1 x2 x3 a4) (fl)) (fun v => match v with | some (_, .int x) => rt x | _ => fl) 127 117 [(105, .ref 93), (0, .int x1), (0, .int x2), (0, .int x3), (0, dV), (0, dV)] [] = (bn (f_Reader_step) fun _ =>
  bn (f_Reader_countOf x3) fun v1 =>
  bn (f_Reader_stepNumber (0 : Int32) (v1 - (1 : Int32))) fun v2 =>
  (if v2 = 0 then
    bn (gdZ (0 : Int32)) fun _ => rt (0 : Int32)
  else
    bn (rd 93 11) fun v3 =>
    bn (wr 93 11 (0 : Int32)) fun _ =>
    (if x3 = (24 : Int32) then
      k_189 x1 x2 x3 v3
    else
      (if x3 = (23 : Int32) then
        (if x3 = (23 : Int32) then
          bn (f_Reader_stepNumber (1 : Int32) (999 : Int32)) fun v7 =>
          (if v7 = 0 then
            bn (gdZ (0 : Int32)) fun _ => rt (0 : Int32)
          else
            k_189 x1 x2 x3 v3)
        else
          bn (f_Reader_stepNumber (1 : Int32) (9 : Int32)) fun v6 =>
          (if v6 = 0 then
            bn (gdZ (0 : Int32)) fun _ => rt (0 : Int32)
          else
            k_189 x1 x2 x3 v3))
      else
        (if x3 = (23 : Int32) then
          bn (f_Reader_stepNumber (0 : Int32) (999 : Int32)) fun v5 =>
          (if v5 = 0 then
            bn (gdZ (0 : Int32)) fun _ => rt (0 : Int32)
          else
            k_189 x1 x2 x3 v3)
        else
          bn (f_Reader_stepNumber (0 : Int32) (9 : Int32)) fun v4 =>
          (if v4 = 0 then
            bn (gdZ (0 : Int32)) fun _ => rt (0 : Int32)
          else
            k_189 x1 x2 x3 v3)))))) := rfl
theorem s_Reader_diaryLine_117 {d : Nat} (hcs : AllS L X d (cs_Reader_diaryLine F_Reader_countOf F_Reader_fail F_Reader_opensLine F_Reader_step F_Reader_stepKeyword F_Reader_stepNumber F_Reader_stepSign F_Table_putWide)) (x1 : Int32) (x2 : Int32) (x3 : Int32) {o : Option Value × PH} {Q : (Int32) → MI → Prop} (q0 : ∀ v I, Q v I → o = (some (.int v), HH I)) (I : MI) (r : Int32) (I1 : MI) (h : K_Reader_diaryLine_117 x1 x2 x3 I = some (r, I1)) (hq : Q r I1) : At L X (d + 1) 103 117 [(105, .ref 93), (0, .int x1), (0, .int x2), (0, .int x3), (0, dV), (0, dV)] [] I o := by
  refine wf_ok z_Reader_diaryLine hcs ?_ ?_ _ _ _ _ _ ⟨rfl, trivial, trivial, trivial, trivial, trivial, trivial⟩ trivial (unm_refl _ _) ((congrFun (e_s_Reader_diaryLine_117 (L := L) (X := X) F_Reader_countOf F_Reader_fail F_Reader_opensLine F_Reader_step F_Reader_stepKeyword F_Reader_stepNumber F_Reader_stepSign F_Table_putWide K_Reader_diaryLine_189 x1 x2 x3) I).trans h)
  · intro pc ls st I2 h1 h2 h3 h
    rcases mC_ok h with ⟨hb, h⟩ | ⟨_, h⟩
    · have e := Nat.eq_of_beq_eq_true hb
      subst e
      obtain ⟨hst, h⟩ := mN_ok h
      subst hst
      obtain ⟨a4, n4, h⟩ := gI_ok h
      obtain ⟨n5, h⟩ := gD_ok h
      refine at_leaf (ls2 := [(105, .ref 93), (0, .int x1), (0, .int x2), (0, .int x3), (0, .int a4), (0, dV)]) h3.1 ⟨Or.inr ⟨_, (h3.2 0 rfl).trans rfl⟩, Or.inr ⟨_, (h3.2 1 rfl).trans rfl⟩, Or.inr ⟨_, (h3.2 2 rfl).trans rfl⟩, Or.inr ⟨_, (h3.2 3 rfl).trans rfl⟩, Or.inr n4, Or.inl ⟨rfl, n5⟩, trivial⟩ ?_
      exact s_Reader_diaryLine_189 hcs x1 x2 x3 a4 q0 _ _ _ h hq
    cases h
  · intro v I2 _ h
    split at h
    · cases h; exact q0 _ _ hq
    · cases h
def F_Reader_diaryLine : M (Int32) :=
  bn (F_Reader_opensLine (20 : Int32) 102) fun v1 =>
  (if v1 = 0 then
    bn (gdZ (0 : Int32)) fun _ => rt (0 : Int32)
  else
    bn (F_Reader_stepNumber (0 : Int32) (999 : Int32)) fun v2 =>
    (if v2 = 0 then
      bn (gdZ (0 : Int32)) fun _ => rt (0 : Int32)
    else
      bn (rd 93 11) fun v3 =>
      bn (F_Reader_stepKeyword (21 : Int32)) fun v4 =>
      (if v4 = 0 then
        bn (gdZ (0 : Int32)) fun _ => rt (0 : Int32)
      else
        bn (F_Reader_stepNumber (0 : Int32) (23 : Int32)) fun v5 =>
        (if v5 = 0 then
          bn (gdZ (0 : Int32)) fun _ => rt (0 : Int32)
        else
          bn (rd 93 11) fun v6 =>
          bn (rd 93 10) fun v7 =>
          bn (ld 401 107 v7) fun v8 =>
          (if v8 = (2 : Int32) then
            bn (rd 93 10) fun v10 =>
            bn (ld 401 108 v10) fun v11 =>
            (if v11 = (22 : Int32) then
              K_Reader_diaryLine_117 v3 v6 v11
            else
              (if v11 = (23 : Int32) then
                K_Reader_diaryLine_117 v3 v6 v11
              else
                (if v11 = (9 : Int32) then
                  K_Reader_diaryLine_117 v3 v6 v11
                else
                  (if v11 = (24 : Int32) then
                    K_Reader_diaryLine_117 v3 v6 v11
                  else
                    bn (F_Reader_fail (1 : Int32)) fun v12 =>
                    bn (gdZ v12) fun _ => rt v12))))
          else
            (if (-1 : Int32) = (22 : Int32) then
              K_Reader_diaryLine_117 v3 v6 (-1 : Int32)
            else
              (if (-1 : Int32) = (23 : Int32) then
                K_Reader_diaryLine_117 v3 v6 (-1 : Int32)
              else
                (if (-1 : Int32) = (9 : Int32) then
                  K_Reader_diaryLine_117 v3 v6 (-1 : Int32)
                else
                  (if (-1 : Int32) = (24 : Int32) then
                    K_Reader_diaryLine_117 v3 v6 (-1 : Int32)
                  else
                    bn (F_Reader_fail (1 : Int32)) fun v9 =>
                    bn (gdZ v9) fun _ => rt v9)))))))))
set_option maxRecDepth 4000 in
theorem e_s_Reader_diaryLine_0 (f_Reader_countOf : Int32 → M Int32) (f_Reader_fail : Int32 → M Int32) (f_Reader_opensLine : Int32 → Nat → M Int32) (f_Reader_step : M Unit) (f_Reader_stepKeyword : Int32 → M Int32) (f_Reader_stepNumber : Int32 → Int32 → M Int32) (f_Reader_stepSign : Int32 → M Int32) (f_Table_putWide : Nat → Int32 → Int32 → Int32 → Int32 → Int32 → M Int32) (k_117 : Int32 → Int32 → Int32 → M (Int32)) : wf (β := Int32) L X q_Reader_diaryLine 2 (cs_Reader_diaryLine f_Reader_countOf f_Reader_fail f_Reader_opensLine f_Reader_step f_Reader_stepKeyword f_Reader_stepNumber f_Reader_stepSign f_Table_putWide) [1, 2, 3] [117, 189] (fun pc ls st => mC (Nat.beq pc 117) (mN st <| gI ls 1 fun a1 => gI ls 2 fun a2 => gI ls 3 fun a3 => gD ls 4 <| gD ls 5 <| k_117 a1 a2 a3) (fl)) (fun v => match v with | some (_, .int x) => rt x | _ => fl) 127 0 [(105, .ref 93), (0, dV), (0, dV), (0, dV), (0, dV), (0, dV)] [] = (bn (f_Reader_opensLine (20 : Int32) 102) fun v1 =>
  (if v1 = 0 then
    bn (gdZ (0 : Int32)) fun _ => rt (0 : Int32)
  else
    bn (f_Reader_stepNumber (0 : Int32) (999 : Int32)) fun v2 =>
    (if v2 = 0 then
      bn (gdZ (0 : Int32)) fun _ => rt (0 : Int32)
    else
      bn (rd 93 11) fun v3 =>
      bn (f_Reader_stepKeyword (21 : Int32)) fun v4 =>
      (if v4 = 0 then
        bn (gdZ (0 : Int32)) fun _ => rt (0 : Int32)
      else
        bn (f_Reader_stepNumber (0 : Int32) (23 : Int32)) fun v5 =>
        (if v5 = 0 then
          bn (gdZ (0 : Int32)) fun _ => rt (0 : Int32)
        else
          bn (rd 93 11) fun v6 =>
          bn (rd 93 10) fun v7 =>
          bn (ld 401 107 v7) fun v8 =>
          (if v8 = (2 : Int32) then
            bn (rd 93 10) fun v10 =>
            bn (ld 401 108 v10) fun v11 =>
            (if v11 = (22 : Int32) then
              k_117 v3 v6 v11
            else
              (if v11 = (23 : Int32) then
                k_117 v3 v6 v11
              else
                (if v11 = (9 : Int32) then
                  k_117 v3 v6 v11
                else
                  (if v11 = (24 : Int32) then
                    k_117 v3 v6 v11
                  else
                    bn (f_Reader_fail (1 : Int32)) fun v12 =>
                    bn (gdZ v12) fun _ => rt v12))))
          else
            (if (-1 : Int32) = (22 : Int32) then
              k_117 v3 v6 (-1 : Int32)
            else
              (if (-1 : Int32) = (23 : Int32) then
                k_117 v3 v6 (-1 : Int32)
              else
                (if (-1 : Int32) = (9 : Int32) then
                  k_117 v3 v6 (-1 : Int32)
                else
                  (if (-1 : Int32) = (24 : Int32) then
                    k_117 v3 v6 (-1 : Int32)
                  else
                    bn (f_Reader_fail (1 : Int32)) fun v9 =>
                    bn (gdZ v9) fun _ => rt v9)))))))))) := rfl
theorem s_Reader_diaryLine_0 {d : Nat} (hcs : AllS L X d (cs_Reader_diaryLine F_Reader_countOf F_Reader_fail F_Reader_opensLine F_Reader_step F_Reader_stepKeyword F_Reader_stepNumber F_Reader_stepSign F_Table_putWide)) {o : Option Value × PH} {Q : (Int32) → MI → Prop} (q0 : ∀ v I, Q v I → o = (some (.int v), HH I)) (I : MI) (r : Int32) (I1 : MI) (h : F_Reader_diaryLine I = some (r, I1)) (hq : Q r I1) : At L X (d + 1) 103 0 [(105, .ref 93), (0, dV), (0, dV), (0, dV), (0, dV), (0, dV)] [] I o := by
  refine wf_ok z_Reader_diaryLine hcs ?_ ?_ _ _ _ _ _ ⟨rfl, trivial, trivial, trivial, trivial, trivial, trivial⟩ trivial (unm_refl _ _) ((congrFun (e_s_Reader_diaryLine_0 (L := L) (X := X) F_Reader_countOf F_Reader_fail F_Reader_opensLine F_Reader_step F_Reader_stepKeyword F_Reader_stepNumber F_Reader_stepSign F_Table_putWide K_Reader_diaryLine_117) I).trans h)
  · intro pc ls st I2 h1 h2 h3 h
    rcases mC_ok h with ⟨hb, h⟩ | ⟨_, h⟩
    · have e := Nat.eq_of_beq_eq_true hb
      subst e
      obtain ⟨hst, h⟩ := mN_ok h
      subst hst
      obtain ⟨a1, n1, h⟩ := gI_ok h
      obtain ⟨a2, n2, h⟩ := gI_ok h
      obtain ⟨a3, n3, h⟩ := gI_ok h
      obtain ⟨n4, h⟩ := gD_ok h
      obtain ⟨n5, h⟩ := gD_ok h
      refine at_leaf (ls2 := [(105, .ref 93), (0, .int a1), (0, .int a2), (0, .int a3), (0, dV), (0, dV)]) h3.1 ⟨Or.inr ⟨_, (h3.2 0 rfl).trans rfl⟩, Or.inr n1, Or.inr n2, Or.inr n3, Or.inl ⟨rfl, n4⟩, Or.inl ⟨rfl, n5⟩, trivial⟩ ?_
      exact s_Reader_diaryLine_117 hcs a1 a2 a3 q0 _ _ _ h hq
    cases h
  · intro v I2 _ h
    split at h
    · cases h; exact q0 _ _ hq
    · cases h
theorem w_Reader_diaryLine {d : Nat} (hcs : AllS L X d (cs_Reader_diaryLine F_Reader_countOf F_Reader_fail F_Reader_opensLine F_Reader_step F_Reader_stepKeyword F_Reader_stepNumber F_Reader_stepSign F_Table_putWide)) : Snd L X (d + 1) 103 1 (W_Reader_diaryLine F_Reader_diaryLine) := by
  refine ⟨_, z_Reader_diaryLine, rfl, fun β args k I r hty hlen h => ?_⟩
  unfold W_Reader_diaryLine at h
  split at h
  · rename_i t0 a0
    obtain ⟨hb0, h⟩ := mB_ok h
    have e0 := Nat.eq_of_beq_eq_true hb0
    have g0 : okB 105 a0 = true := e0 ▸ hty.1
    have e20 := one_105 g0
    subst e20
    obtain ⟨v, I1, h1, h2⟩ := bn_some h
    refine ⟨gf_obj (c := 5) (by decide) g0, rfl, some (0, .int v), I1, trivial, ?_, h2⟩
    exact s_Reader_diaryLine_0 hcs   (Q := fun w I => w = v ∧ I = I1) (fun w I q => by obtain ⟨rfl, rfl⟩ := q; rfl) I v I1 h1 ⟨rfl, rfl⟩
  · cases h
theorem S_Reader_diaryLine {d : Nat} (hd : 3 ≤ d) : Snd L X d 103 1 (W_Reader_diaryLine F_Reader_diaryLine) := by
  obtain ⟨e, rfl⟩ : ∃ e, d = e + 1 := ⟨d - 1, by omega⟩
  exact w_Reader_diaryLine ⟨S_Reader_countOf (by omega), S_Reader_fail (by omega), S_Reader_opensLine (by omega), S_Reader_step (by omega), S_Reader_stepKeyword (by omega), S_Reader_stepNumber (by omega), S_Reader_stepSign (by omega), S_Table_putWide (by omega), trivial⟩
set_option maxRecDepth 100000 in
theorem z_Law_add : pT[87]? = some (q_Law_add, 2, 2, 0, 2) := rfl
def W_Law_add (F : Nat → Int32 → M Unit) : CSem := fun _ args k => match args with
  | [(t0, .ref a0), (_, .int a1)] => mB (Nat.beq t0 102) <| bn (F a0 a1) fun _ => k none
  | _ => fl
def cs_Law_add : List (Nat × Nat × CSem) := []
def F_Law_add (r0 : Nat) (x1 : Int32) : M (Unit) :=
  bn (rd r0 1) fun v1 =>
  (if v1 < (Int32.ofNat 400) then
    bn (rd r0 1) fun v2 =>
    bn (sr 400 (r0 + 3) v2 x1) fun _ =>
    bn (rd r0 1) fun v3 =>
    bn (wr r0 1 (v3 + (1 : Int32))) fun _ =>
    rt ()
  else
    rt ())
set_option maxRecDepth 4000 in
theorem e_s_Law_add_0 (r0 : Nat) (x1 : Int32) : wf (β := Unit) L X q_Law_add 0 cs_Law_add [] [] (fun _ _ _ => fl) (fun v => match v with | none => rt () | _ => fl) 24 0 [(102, .ref r0), (0, .int x1)] [] = (bn (rd r0 1) fun v1 =>
  (if v1 < (Int32.ofNat 400) then
    bn (rd r0 1) fun v2 =>
    bn (sr 400 (r0 + 3) v2 x1) fun _ =>
    bn (rd r0 1) fun v3 =>
    bn (wr r0 1 (v3 + (1 : Int32))) fun _ =>
    rt ()
  else
    rt ())) := rfl
theorem s_Law_add_0 {d : Nat} (hcs : AllS L X d cs_Law_add) (r0 : Nat) (x1 : Int32) (t0 : okB 102 r0 = true) {o : Option Value × PH} {Q : (Unit) → MI → Prop} (q0 : ∀ v I, Q v I → o = (none, HH I)) (I : MI) (r : Unit) (I1 : MI) (h : F_Law_add r0 x1 I = some (r, I1)) (hq : Q r I1) : At L X (d + 1) 87 0 [(102, .ref r0), (0, .int x1)] [] I o := by
  refine wf_ok z_Law_add hcs ?_ ?_ _ _ _ _ _ ⟨t0, trivial, trivial⟩ trivial (unm_refl _ _) ((congrFun (e_s_Law_add_0 (L := L) (X := X) r0 x1) I).trans h)
  · intro pc ls st I2 h1 h2 h3 h
    cases h
  · intro v I2 _ h
    split at h
    · cases h; exact q0 _ _ hq
    · cases h
theorem w_Law_add {d : Nat} (hcs : AllS L X d cs_Law_add) : Snd L X (d + 1) 87 2 (W_Law_add F_Law_add) := by
  refine ⟨_, z_Law_add, rfl, fun β args k I r hty hlen h => ?_⟩
  unfold W_Law_add at h
  split at h
  · rename_i t0 a0 u1 a1
    obtain ⟨hb0, h⟩ := mB_ok h
    have e0 := Nat.eq_of_beq_eq_true hb0
    have g0 : okB 102 a0 = true := e0 ▸ hty.1
    obtain ⟨v, I1, h1, h2⟩ := bn_some h
    refine ⟨gf_obj (c := 2) (by decide) g0, rfl, none, I1, trivial, ?_, h2⟩
    exact s_Law_add_0 hcs a0 a1 g0 (Q := fun w I => w = v ∧ I = I1) (fun w I q => by obtain ⟨rfl, rfl⟩ := q; rfl) I v I1 h1 ⟨rfl, rfl⟩
  · cases h
theorem S_Law_add {d : Nat} (hd : 1 ≤ d) : Snd L X d 87 2 (W_Law_add F_Law_add) := by
  obtain ⟨e, rfl⟩ : ∃ e, d = e + 1 := ⟨d - 1, by omega⟩
  exact w_Law_add trivial
set_option maxRecDepth 100000 in
theorem z_Reader_comparison : pT[97]? = some (q_Reader_comparison, 1, 1, 1, 5) := rfl
def W_Reader_comparison (F : M Int32) : CSem := fun _ args k => match args with
  | [(t0, .ref a0)] => mB (Nat.beq t0 105) <| bn (F) fun v => k (some (0, .int v))
  | _ => fl
def cs_Reader_comparison (f_Reader_isSign : Int32 → M Int32) : List (Nat × Nat × CSem) := [(89, 2, W_Reader_isSign f_Reader_isSign)]
def F_Reader_comparison : M (Int32) :=
  bn (F_Reader_isSign (60 : Int32)) fun v1 =>
  (if v1 = 0 then
    bn (F_Reader_isSign (61 : Int32)) fun v2 =>
    (if v2 = 0 then
      bn (F_Reader_isSign (62 : Int32)) fun v3 =>
      (if v3 = 0 then
        rt (0 : Int32)
      else
        rt (-7 : Int32))
    else
      rt (-6 : Int32))
  else
    rt (-5 : Int32))
set_option maxRecDepth 4000 in
theorem e_s_Reader_comparison_0 (f_Reader_isSign : Int32 → M Int32) : wf (β := Int32) L X q_Reader_comparison 1 (cs_Reader_comparison f_Reader_isSign) [] [] (fun _ _ _ => fl) (fun v => match v with | some (_, .int x) => rt x | _ => fl) 25 0 [(105, .ref 93)] [] = (bn (f_Reader_isSign (60 : Int32)) fun v1 =>
  (if v1 = 0 then
    bn (f_Reader_isSign (61 : Int32)) fun v2 =>
    (if v2 = 0 then
      bn (f_Reader_isSign (62 : Int32)) fun v3 =>
      (if v3 = 0 then
        rt (0 : Int32)
      else
        rt (-7 : Int32))
    else
      rt (-6 : Int32))
  else
    rt (-5 : Int32))) := rfl
theorem s_Reader_comparison_0 {d : Nat} (hcs : AllS L X d (cs_Reader_comparison F_Reader_isSign)) {o : Option Value × PH} {Q : (Int32) → MI → Prop} (q0 : ∀ v I, Q v I → o = (some (.int v), HH I)) (I : MI) (r : Int32) (I1 : MI) (h : F_Reader_comparison I = some (r, I1)) (hq : Q r I1) : At L X (d + 1) 97 0 [(105, .ref 93)] [] I o := by
  refine wf_ok z_Reader_comparison hcs ?_ ?_ _ _ _ _ _ ⟨rfl, trivial⟩ trivial (unm_refl _ _) ((congrFun (e_s_Reader_comparison_0 (L := L) (X := X) F_Reader_isSign) I).trans h)
  · intro pc ls st I2 h1 h2 h3 h
    cases h
  · intro v I2 _ h
    split at h
    · cases h; exact q0 _ _ hq
    · cases h
theorem w_Reader_comparison {d : Nat} (hcs : AllS L X d (cs_Reader_comparison F_Reader_isSign)) : Snd L X (d + 1) 97 1 (W_Reader_comparison F_Reader_comparison) := by
  refine ⟨_, z_Reader_comparison, rfl, fun β args k I r hty hlen h => ?_⟩
  unfold W_Reader_comparison at h
  split at h
  · rename_i t0 a0
    obtain ⟨hb0, h⟩ := mB_ok h
    have e0 := Nat.eq_of_beq_eq_true hb0
    have g0 : okB 105 a0 = true := e0 ▸ hty.1
    have e20 := one_105 g0
    subst e20
    obtain ⟨v, I1, h1, h2⟩ := bn_some h
    refine ⟨gf_obj (c := 5) (by decide) g0, rfl, some (0, .int v), I1, trivial, ?_, h2⟩
    exact s_Reader_comparison_0 hcs   (Q := fun w I => w = v ∧ I = I1) (fun w I q => by obtain ⟨rfl, rfl⟩ := q; rfl) I v I1 h1 ⟨rfl, rfl⟩
  · cases h
theorem S_Reader_comparison {d : Nat} (hd : 2 ≤ d) : Snd L X d 97 1 (W_Reader_comparison F_Reader_comparison) := by
  obtain ⟨e, rfl⟩ : ∃ e, d = e + 1 := ⟨d - 1, by omega⟩
  exact w_Reader_comparison ⟨S_Reader_isSign (by omega), trivial⟩
set_option maxRecDepth 100000 in
theorem z_Reader_isReckoning : pT[88]? = some (q_Reader_isReckoning, 1, 1, 2, 5) := rfl
def W_Reader_isReckoning (F : M Int32) : CSem := fun _ args k => match args with
  | [(t0, .ref a0)] => mB (Nat.beq t0 105) <| bn (F) fun v => k (some (0, .int v))
  | _ => fl
def cs_Reader_isReckoning (f_Reader_isSign : Int32 → M Int32) : List (Nat × Nat × CSem) := [(89, 2, W_Reader_isSign f_Reader_isSign)]
def F_Reader_isReckoning : M (Int32) :=
  bn (F_Reader_isSign (43 : Int32)) fun v1 =>
  (if v1 = 0 then
    bn (F_Reader_isSign (45 : Int32)) fun v2 =>
    (if v2 = 0 then
      bn (F_Reader_isSign (42 : Int32)) fun v3 =>
      (if v3 = 0 then
        bn (F_Reader_isSign (47 : Int32)) fun v4 =>
        (if v4 = 0 then
          bn (gdZ (0 : Int32)) fun _ => rt (0 : Int32)
        else
          bn (gdZ (1 : Int32)) fun _ => rt (1 : Int32))
      else
        bn (gdZ (1 : Int32)) fun _ => rt (1 : Int32))
    else
      bn (gdZ (1 : Int32)) fun _ => rt (1 : Int32))
  else
    bn (gdZ (1 : Int32)) fun _ => rt (1 : Int32))
set_option maxRecDepth 4000 in
theorem e_s_Reader_isReckoning_0 (f_Reader_isSign : Int32 → M Int32) : wf (β := Int32) L X q_Reader_isReckoning 2 (cs_Reader_isReckoning f_Reader_isSign) [] [] (fun _ _ _ => fl) (fun v => match v with | some (_, .int x) => rt x | _ => fl) 25 0 [(105, .ref 93)] [] = (bn (f_Reader_isSign (43 : Int32)) fun v1 =>
  (if v1 = 0 then
    bn (f_Reader_isSign (45 : Int32)) fun v2 =>
    (if v2 = 0 then
      bn (f_Reader_isSign (42 : Int32)) fun v3 =>
      (if v3 = 0 then
        bn (f_Reader_isSign (47 : Int32)) fun v4 =>
        (if v4 = 0 then
          bn (gdZ (0 : Int32)) fun _ => rt (0 : Int32)
        else
          bn (gdZ (1 : Int32)) fun _ => rt (1 : Int32))
      else
        bn (gdZ (1 : Int32)) fun _ => rt (1 : Int32))
    else
      bn (gdZ (1 : Int32)) fun _ => rt (1 : Int32))
  else
    bn (gdZ (1 : Int32)) fun _ => rt (1 : Int32))) := rfl
theorem s_Reader_isReckoning_0 {d : Nat} (hcs : AllS L X d (cs_Reader_isReckoning F_Reader_isSign)) {o : Option Value × PH} {Q : (Int32) → MI → Prop} (q0 : ∀ v I, Q v I → o = (some (.int v), HH I)) (I : MI) (r : Int32) (I1 : MI) (h : F_Reader_isReckoning I = some (r, I1)) (hq : Q r I1) : At L X (d + 1) 88 0 [(105, .ref 93)] [] I o := by
  refine wf_ok z_Reader_isReckoning hcs ?_ ?_ _ _ _ _ _ ⟨rfl, trivial⟩ trivial (unm_refl _ _) ((congrFun (e_s_Reader_isReckoning_0 (L := L) (X := X) F_Reader_isSign) I).trans h)
  · intro pc ls st I2 h1 h2 h3 h
    cases h
  · intro v I2 _ h
    split at h
    · cases h; exact q0 _ _ hq
    · cases h
theorem w_Reader_isReckoning {d : Nat} (hcs : AllS L X d (cs_Reader_isReckoning F_Reader_isSign)) : Snd L X (d + 1) 88 1 (W_Reader_isReckoning F_Reader_isReckoning) := by
  refine ⟨_, z_Reader_isReckoning, rfl, fun β args k I r hty hlen h => ?_⟩
  unfold W_Reader_isReckoning at h
  split at h
  · rename_i t0 a0
    obtain ⟨hb0, h⟩ := mB_ok h
    have e0 := Nat.eq_of_beq_eq_true hb0
    have g0 : okB 105 a0 = true := e0 ▸ hty.1
    have e20 := one_105 g0
    subst e20
    obtain ⟨v, I1, h1, h2⟩ := bn_some h
    refine ⟨gf_obj (c := 5) (by decide) g0, rfl, some (0, .int v), I1, trivial, ?_, h2⟩
    exact s_Reader_isReckoning_0 hcs   (Q := fun w I => w = v ∧ I = I1) (fun w I q => by obtain ⟨rfl, rfl⟩ := q; rfl) I v I1 h1 ⟨rfl, rfl⟩
  · cases h
theorem S_Reader_isReckoning {d : Nat} (hd : 2 ≤ d) : Snd L X d 88 1 (W_Reader_isReckoning F_Reader_isReckoning) := by
  obtain ⟨e, rfl⟩ : ∃ e, d = e + 1 := ⟨d - 1, by omega⟩
  exact w_Reader_isReckoning ⟨S_Reader_isSign (by omega), trivial⟩
set_option maxRecDepth 100000 in
theorem z_Reader_part : pT[90]? = some (q_Reader_part, 1, 1, 2, 5) := rfl
def W_Reader_part (F : M Int32) : CSem := fun _ args k => match args with
  | [(t0, .ref a0)] => mB (Nat.beq t0 105) <| bn (F) fun v => k (some (0, .int v))
  | _ => fl
def cs_Reader_part (f_Law_add : Nat → Int32 → M Unit) (f_Reader_fail : Int32 → M Int32) (f_Reader_step : M Unit) : List (Nat × Nat × CSem) := [(87, 2, W_Law_add f_Law_add), (80, 2, W_Reader_fail f_Reader_fail), (84, 1, W_Reader_step f_Reader_step)]
def F_Reader_part : M (Int32) :=
  bn (rd 93 10) fun v1 =>
  bn (ld 401 107 v1) fun v2 =>
  (if v2 = (3 : Int32) then
    bn (rd 93 10) fun v3 =>
    bn (ld 401 108 v3) fun v4 =>
    (if v4 = 0 then
      bn (F_Reader_fail (2 : Int32)) fun v7 =>
      bn (gdZ v7) fun _ => rt v7
    else
      bn (rd 93 10) fun v5 =>
      bn (ld 401 108 v5) fun v6 =>
      bn (F_Law_add 95 v6) fun _ =>
      bn (F_Reader_step) fun _ =>
      bn (gdZ (1 : Int32)) fun _ => rt (1 : Int32))
  else
    bn (F_Reader_fail (1 : Int32)) fun v8 =>
    bn (gdZ v8) fun _ => rt v8)
set_option maxRecDepth 4000 in
theorem e_s_Reader_part_0 (f_Law_add : Nat → Int32 → M Unit) (f_Reader_fail : Int32 → M Int32) (f_Reader_step : M Unit) : wf (β := Int32) L X q_Reader_part 2 (cs_Reader_part f_Law_add f_Reader_fail f_Reader_step) [] [] (fun _ _ _ => fl) (fun v => match v with | some (_, .int x) => rt x | _ => fl) 39 0 [(105, .ref 93)] [] = (bn (rd 93 10) fun v1 =>
  bn (ld 401 107 v1) fun v2 =>
  (if v2 = (3 : Int32) then
    bn (rd 93 10) fun v3 =>
    bn (ld 401 108 v3) fun v4 =>
    (if v4 = 0 then
      bn (f_Reader_fail (2 : Int32)) fun v7 =>
      bn (gdZ v7) fun _ => rt v7
    else
      bn (rd 93 10) fun v5 =>
      bn (ld 401 108 v5) fun v6 =>
      bn (f_Law_add 95 v6) fun _ =>
      bn (f_Reader_step) fun _ =>
      bn (gdZ (1 : Int32)) fun _ => rt (1 : Int32))
  else
    bn (f_Reader_fail (1 : Int32)) fun v8 =>
    bn (gdZ v8) fun _ => rt v8)) := rfl
theorem s_Reader_part_0 {d : Nat} (hcs : AllS L X d (cs_Reader_part F_Law_add F_Reader_fail F_Reader_step)) {o : Option Value × PH} {Q : (Int32) → MI → Prop} (q0 : ∀ v I, Q v I → o = (some (.int v), HH I)) (I : MI) (r : Int32) (I1 : MI) (h : F_Reader_part I = some (r, I1)) (hq : Q r I1) : At L X (d + 1) 90 0 [(105, .ref 93)] [] I o := by
  refine wf_ok z_Reader_part hcs ?_ ?_ _ _ _ _ _ ⟨rfl, trivial⟩ trivial (unm_refl _ _) ((congrFun (e_s_Reader_part_0 (L := L) (X := X) F_Law_add F_Reader_fail F_Reader_step) I).trans h)
  · intro pc ls st I2 h1 h2 h3 h
    cases h
  · intro v I2 _ h
    split at h
    · cases h; exact q0 _ _ hq
    · cases h
theorem w_Reader_part {d : Nat} (hcs : AllS L X d (cs_Reader_part F_Law_add F_Reader_fail F_Reader_step)) : Snd L X (d + 1) 90 1 (W_Reader_part F_Reader_part) := by
  refine ⟨_, z_Reader_part, rfl, fun β args k I r hty hlen h => ?_⟩
  unfold W_Reader_part at h
  split at h
  · rename_i t0 a0
    obtain ⟨hb0, h⟩ := mB_ok h
    have e0 := Nat.eq_of_beq_eq_true hb0
    have g0 : okB 105 a0 = true := e0 ▸ hty.1
    have e20 := one_105 g0
    subst e20
    obtain ⟨v, I1, h1, h2⟩ := bn_some h
    refine ⟨gf_obj (c := 5) (by decide) g0, rfl, some (0, .int v), I1, trivial, ?_, h2⟩
    exact s_Reader_part_0 hcs   (Q := fun w I => w = v ∧ I = I1) (fun w I q => by obtain ⟨rfl, rfl⟩ := q; rfl) I v I1 h1 ⟨rfl, rfl⟩
  · cases h
theorem S_Reader_part {d : Nat} (hd : 2 ≤ d) : Snd L X d 90 1 (W_Reader_part F_Reader_part) := by
  obtain ⟨e, rfl⟩ : ∃ e, d = e + 1 := ⟨d - 1, by omega⟩
  exact w_Reader_part ⟨S_Law_add (by omega), S_Reader_fail (by omega), S_Reader_step (by omega), trivial⟩
set_option maxRecDepth 100000 in
theorem z_Reader_unit : pT[86]? = some (q_Reader_unit, 1, 1, 2, 5) := rfl
def W_Reader_unit (F : M Int32) : CSem := fun _ args k => match args with
  | [(t0, .ref a0)] => mB (Nat.beq t0 105) <| bn (F) fun v => k (some (0, .int v))
  | _ => fl
def cs_Reader_unit (f_A_within : Int32 → Int32 → Int32 → M Int32) (f_Law_add : Nat → Int32 → M Unit) (f_Reader_fail : Int32 → M Int32) (f_Reader_step : M Unit) : List (Nat × Nat × CSem) := [(18, 3, W_A_within f_A_within), (87, 2, W_Law_add f_Law_add), (80, 2, W_Reader_fail f_Reader_fail), (84, 1, W_Reader_step f_Reader_step)]
def F_Reader_unit : M (Int32) :=
  bn (rd 93 10) fun v1 =>
  bn (ld 401 107 v1) fun v2 =>
  (if v2 = (3 : Int32) then
    bn (rd 93 10) fun v12 =>
    bn (ld 401 108 v12) fun v13 =>
    bn (F_Law_add 95 v13) fun _ =>
    bn (F_Reader_step) fun _ =>
    bn (gdZ (1 : Int32)) fun _ => rt (1 : Int32)
  else
    bn (rd 93 10) fun v3 =>
    bn (ld 401 107 v3) fun v4 =>
    (if v4 = (2 : Int32) then
      bn (rd 93 10) fun v6 =>
      bn (ld 401 108 v6) fun v7 =>
      bn (F_A_within v7 (7 : Int32) (15 : Int32)) fun v8 =>
      (if v8 = 0 then
        bn (F_Reader_fail (1 : Int32)) fun v9 =>
        bn (gdZ v9) fun _ => rt v9
      else
        bn (rd 93 10) fun v10 =>
        bn (ld 401 108 v10) fun v11 =>
        bn (F_Law_add 95 ((-20 : Int32) - v11)) fun _ =>
        bn (F_Reader_step) fun _ =>
        bn (gdZ (1 : Int32)) fun _ => rt (1 : Int32))
    else
      bn (F_Reader_fail (1 : Int32)) fun v5 =>
      bn (gdZ v5) fun _ => rt v5))
set_option maxRecDepth 4000 in
theorem e_s_Reader_unit_0 (f_A_within : Int32 → Int32 → Int32 → M Int32) (f_Law_add : Nat → Int32 → M Unit) (f_Reader_fail : Int32 → M Int32) (f_Reader_step : M Unit) : wf (β := Int32) L X q_Reader_unit 2 (cs_Reader_unit f_A_within f_Law_add f_Reader_fail f_Reader_step) [] [] (fun _ _ _ => fl) (fun v => match v with | some (_, .int x) => rt x | _ => fl) 58 0 [(105, .ref 93)] [] = (bn (rd 93 10) fun v1 =>
  bn (ld 401 107 v1) fun v2 =>
  (if v2 = (3 : Int32) then
    bn (rd 93 10) fun v12 =>
    bn (ld 401 108 v12) fun v13 =>
    bn (f_Law_add 95 v13) fun _ =>
    bn (f_Reader_step) fun _ =>
    bn (gdZ (1 : Int32)) fun _ => rt (1 : Int32)
  else
    bn (rd 93 10) fun v3 =>
    bn (ld 401 107 v3) fun v4 =>
    (if v4 = (2 : Int32) then
      bn (rd 93 10) fun v6 =>
      bn (ld 401 108 v6) fun v7 =>
      bn (f_A_within v7 (7 : Int32) (15 : Int32)) fun v8 =>
      (if v8 = 0 then
        bn (f_Reader_fail (1 : Int32)) fun v9 =>
        bn (gdZ v9) fun _ => rt v9
      else
        bn (rd 93 10) fun v10 =>
        bn (ld 401 108 v10) fun v11 =>
        bn (f_Law_add 95 ((-20 : Int32) - v11)) fun _ =>
        bn (f_Reader_step) fun _ =>
        bn (gdZ (1 : Int32)) fun _ => rt (1 : Int32))
    else
      bn (f_Reader_fail (1 : Int32)) fun v5 =>
      bn (gdZ v5) fun _ => rt v5))) := rfl
theorem s_Reader_unit_0 {d : Nat} (hcs : AllS L X d (cs_Reader_unit F_A_within F_Law_add F_Reader_fail F_Reader_step)) {o : Option Value × PH} {Q : (Int32) → MI → Prop} (q0 : ∀ v I, Q v I → o = (some (.int v), HH I)) (I : MI) (r : Int32) (I1 : MI) (h : F_Reader_unit I = some (r, I1)) (hq : Q r I1) : At L X (d + 1) 86 0 [(105, .ref 93)] [] I o := by
  refine wf_ok z_Reader_unit hcs ?_ ?_ _ _ _ _ _ ⟨rfl, trivial⟩ trivial (unm_refl _ _) ((congrFun (e_s_Reader_unit_0 (L := L) (X := X) F_A_within F_Law_add F_Reader_fail F_Reader_step) I).trans h)
  · intro pc ls st I2 h1 h2 h3 h
    cases h
  · intro v I2 _ h
    split at h
    · cases h; exact q0 _ _ hq
    · cases h
theorem w_Reader_unit {d : Nat} (hcs : AllS L X d (cs_Reader_unit F_A_within F_Law_add F_Reader_fail F_Reader_step)) : Snd L X (d + 1) 86 1 (W_Reader_unit F_Reader_unit) := by
  refine ⟨_, z_Reader_unit, rfl, fun β args k I r hty hlen h => ?_⟩
  unfold W_Reader_unit at h
  split at h
  · rename_i t0 a0
    obtain ⟨hb0, h⟩ := mB_ok h
    have e0 := Nat.eq_of_beq_eq_true hb0
    have g0 : okB 105 a0 = true := e0 ▸ hty.1
    have e20 := one_105 g0
    subst e20
    obtain ⟨v, I1, h1, h2⟩ := bn_some h
    refine ⟨gf_obj (c := 5) (by decide) g0, rfl, some (0, .int v), I1, trivial, ?_, h2⟩
    exact s_Reader_unit_0 hcs   (Q := fun w I => w = v ∧ I = I1) (fun w I q => by obtain ⟨rfl, rfl⟩ := q; rfl) I v I1 h1 ⟨rfl, rfl⟩
  · cases h
theorem S_Reader_unit {d : Nat} (hd : 2 ≤ d) : Snd L X d 86 1 (W_Reader_unit F_Reader_unit) := by
  obtain ⟨e, rfl⟩ : ∃ e, d = e + 1 := ⟨d - 1, by omega⟩
  exact w_Reader_unit ⟨S_A_within (by omega), S_Law_add (by omega), S_Reader_fail (by omega), S_Reader_step (by omega), trivial⟩
set_option maxRecDepth 100000 in
theorem z_Reader_sum : pT[85]? = some (q_Reader_sum, 1, 4, 2, 5) := rfl
def W_Reader_sum (F : M Int32) : CSem := fun _ args k => match args with
  | [(t0, .ref a0)] => mB (Nat.beq t0 105) <| bn (F) fun v => k (some (0, .int v))
  | _ => fl
def cs_Reader_sum (f_Law_add : Nat → Int32 → M Unit) (f_Reader_isReckoning : M Int32) (f_Reader_part : M Int32) (f_Reader_step : M Unit) (f_Reader_unit : M Int32) : List (Nat × Nat × CSem) := [(87, 2, W_Law_add f_Law_add), (88, 1, W_Reader_isReckoning f_Reader_isReckoning), (90, 1, W_Reader_part f_Reader_part), (84, 1, W_Reader_step f_Reader_step), (86, 1, W_Reader_unit f_Reader_unit)]
def K_Reader_sum_130 (x1 : Int32) (x2 : Int32) (x3 : Int32) : M ((Int32 × Int32) ⊕ ((Int32) ⊕ Int32)) :=
  (if x3 = (42 : Int32) then
    bn (F_Law_add 95 (-3 : Int32)) fun _ =>
    rt (.inl (x1, (x2 + (1 : Int32))))
  else
    bn (F_Law_add 95 (-4 : Int32)) fun _ =>
    rt (.inl (x1, (x2 + (1 : Int32)))))
set_option maxRecDepth 4000 in
theorem e_s_Reader_sum_130 (f_Law_add : Nat → Int32 → M Unit) (f_Reader_isReckoning : M Int32) (f_Reader_part : M Int32) (f_Reader_step : M Unit) (f_Reader_unit : M Int32) (x1 : Int32) (x2 : Int32) (x3 : Int32) : wf (β := (Int32 × Int32) ⊕ ((Int32) ⊕ Int32)) L X q_Reader_sum 2 (cs_Reader_sum f_Law_add f_Reader_isReckoning f_Reader_part f_Reader_step f_Reader_unit) [2] [13, 64, 89, 130, 159] (fun pc ls st => mC (Nat.beq pc 13) (mN st <| gI ls 2 fun a2 => gD ls 3 <| rt (.inl (x1, a2))) (fl)) (fun v => match v with | some (_, .int x) => rt (.inr (.inr x)) | _ => fl) 93 130 [(105, .ref 93), (0, .int x1), (0, .int x2), (0, .int x3)] [] = ((if x3 = (42 : Int32) then
    bn (f_Law_add 95 (-3 : Int32)) fun _ =>
    rt (.inl (x1, (x2 + (1 : Int32))))
  else
    bn (f_Law_add 95 (-4 : Int32)) fun _ =>
    rt (.inl (x1, (x2 + (1 : Int32)))))) := rfl
theorem s_Reader_sum_130 {d : Nat} (hcs : AllS L X d (cs_Reader_sum F_Law_add F_Reader_isReckoning F_Reader_part F_Reader_step F_Reader_unit)) (x1 : Int32) (x2 : Int32) (x3 : Int32) {o : Option Value × PH} {Q : ((Int32 × Int32) ⊕ ((Int32) ⊕ Int32)) → MI → Prop} (qb : ∀ y I, Q (.inl y) I → At L X (d + 1) 85 13 [(105, .ref 93), (0, .int y.1), (0, .int y.2), (0, dV)] [] I o) (qe159 : ∀ y I, Q (.inr (.inl y)) I → At L X (d + 1) 85 159 [(105, .ref 93), (0, .int y), (0, dV), (0, dV)] [] I o) (qr : ∀ v I, Q (.inr (.inr v)) I → o = (some (.int v), HH I)) (I : MI) (r : (Int32 × Int32) ⊕ ((Int32) ⊕ Int32)) (I1 : MI) (h : K_Reader_sum_130 x1 x2 x3 I = some (r, I1)) (hq : Q r I1) : At L X (d + 1) 85 130 [(105, .ref 93), (0, .int x1), (0, .int x2), (0, .int x3)] [] I o := by
  refine wf_ok z_Reader_sum hcs ?_ ?_ _ _ _ _ _ ⟨rfl, trivial, trivial, trivial, trivial⟩ trivial (unm_refl _ _) ((congrFun (e_s_Reader_sum_130 (L := L) (X := X) F_Law_add F_Reader_isReckoning F_Reader_part F_Reader_step F_Reader_unit x1 x2 x3) I).trans h)
  · intro pc ls st I2 h1 h2 h3 h
    rcases mC_ok h with ⟨hb, h⟩ | ⟨_, h⟩
    · have e := Nat.eq_of_beq_eq_true hb
      subst e
      obtain ⟨hst, h⟩ := mN_ok h
      subst hst
      obtain ⟨a2, n2, h⟩ := gI_ok h
      obtain ⟨n3, h⟩ := gD_ok h
      refine at_leaf (ls2 := [(105, .ref 93), (0, .int x1), (0, .int a2), (0, dV)]) h3.1 ⟨Or.inr ⟨_, (h3.2 0 rfl).trans rfl⟩, Or.inr ⟨_, (h3.2 1 rfl).trans rfl⟩, Or.inr n2, Or.inl ⟨rfl, n3⟩, trivial⟩ ?_
      cases h; exact qb _ _ hq
    cases h
  · intro v I2 _ h
    split at h
    · cases h; exact qr _ _ hq
    · cases h
def K_Reader_sum_89 (x1 : Int32) (x2 : Int32) (x3 : Int32) : M ((Int32 × Int32) ⊕ ((Int32) ⊕ Int32)) :=
  bn (F_Reader_step) fun _ =>
  (if x3 = (47 : Int32) then
    bn (F_Reader_part) fun v2 =>
    (if v2 = 0 then
      bn (gdZ (0 : Int32)) fun _ => rt (.inr (.inr (0 : Int32)))
    else
      (if x3 = (42 : Int32) then
        K_Reader_sum_130 x1 x2 x3
      else
        (if x3 = (47 : Int32) then
          K_Reader_sum_130 x1 x2 x3
        else
          rt (.inl (x1, (x2 + (1 : Int32)))))))
  else
    bn (F_Reader_unit) fun v1 =>
    (if v1 = 0 then
      bn (gdZ (0 : Int32)) fun _ => rt (.inr (.inr (0 : Int32)))
    else
      (if x3 = (42 : Int32) then
        K_Reader_sum_130 x1 x2 x3
      else
        (if x3 = (47 : Int32) then
          K_Reader_sum_130 x1 x2 x3
        else
          rt (.inl (x1, (x2 + (1 : Int32))))))))
set_option maxRecDepth 4000 in
theorem e_s_Reader_sum_89 (f_Law_add : Nat → Int32 → M Unit) (f_Reader_isReckoning : M Int32) (f_Reader_part : M Int32) (f_Reader_step : M Unit) (f_Reader_unit : M Int32) (k_130 : Int32 → Int32 → Int32 → M ((Int32 × Int32) ⊕ ((Int32) ⊕ Int32))) (x1 : Int32) (x2 : Int32) (x3 : Int32) : wf (β := (Int32 × Int32) ⊕ ((Int32) ⊕ Int32)) L X q_Reader_sum 2 (cs_Reader_sum f_Law_add f_Reader_isReckoning f_Reader_part f_Reader_step f_Reader_unit) [2] [13, 64, 89, 130, 159] (fun pc ls st => mC (Nat.beq pc 13) (mN st <| gI ls 2 fun a2 => gD ls 3 <| rt (.inl (x1, a2))) (mC (Nat.beq pc 130) (mN st <| gI ls 2 fun a2 => k_130 x1 a2 x3) (fl))) (fun v => match v with | some (_, .int x) => rt (.inr (.inr x)) | _ => fl) 93 89 [(105, .ref 93), (0, .int x1), (0, .int x2), (0, .int x3)] [] = (bn (f_Reader_step) fun _ =>
  (if x3 = (47 : Int32) then
    bn (f_Reader_part) fun v2 =>
    (if v2 = 0 then
      bn (gdZ (0 : Int32)) fun _ => rt (.inr (.inr (0 : Int32)))
    else
      (if x3 = (42 : Int32) then
        k_130 x1 x2 x3
      else
        (if x3 = (47 : Int32) then
          k_130 x1 x2 x3
        else
          rt (.inl (x1, (x2 + (1 : Int32)))))))
  else
    bn (f_Reader_unit) fun v1 =>
    (if v1 = 0 then
      bn (gdZ (0 : Int32)) fun _ => rt (.inr (.inr (0 : Int32)))
    else
      (if x3 = (42 : Int32) then
        k_130 x1 x2 x3
      else
        (if x3 = (47 : Int32) then
          k_130 x1 x2 x3
        else
          rt (.inl (x1, (x2 + (1 : Int32))))))))) := rfl
theorem s_Reader_sum_89 {d : Nat} (hcs : AllS L X d (cs_Reader_sum F_Law_add F_Reader_isReckoning F_Reader_part F_Reader_step F_Reader_unit)) (x1 : Int32) (x2 : Int32) (x3 : Int32) {o : Option Value × PH} {Q : ((Int32 × Int32) ⊕ ((Int32) ⊕ Int32)) → MI → Prop} (qb : ∀ y I, Q (.inl y) I → At L X (d + 1) 85 13 [(105, .ref 93), (0, .int y.1), (0, .int y.2), (0, dV)] [] I o) (qe159 : ∀ y I, Q (.inr (.inl y)) I → At L X (d + 1) 85 159 [(105, .ref 93), (0, .int y), (0, dV), (0, dV)] [] I o) (qr : ∀ v I, Q (.inr (.inr v)) I → o = (some (.int v), HH I)) (I : MI) (r : (Int32 × Int32) ⊕ ((Int32) ⊕ Int32)) (I1 : MI) (h : K_Reader_sum_89 x1 x2 x3 I = some (r, I1)) (hq : Q r I1) : At L X (d + 1) 85 89 [(105, .ref 93), (0, .int x1), (0, .int x2), (0, .int x3)] [] I o := by
  refine wf_ok z_Reader_sum hcs ?_ ?_ _ _ _ _ _ ⟨rfl, trivial, trivial, trivial, trivial⟩ trivial (unm_refl _ _) ((congrFun (e_s_Reader_sum_89 (L := L) (X := X) F_Law_add F_Reader_isReckoning F_Reader_part F_Reader_step F_Reader_unit K_Reader_sum_130 x1 x2 x3) I).trans h)
  · intro pc ls st I2 h1 h2 h3 h
    rcases mC_ok h with ⟨hb, h⟩ | ⟨_, h⟩
    · have e := Nat.eq_of_beq_eq_true hb
      subst e
      obtain ⟨hst, h⟩ := mN_ok h
      subst hst
      obtain ⟨a2, n2, h⟩ := gI_ok h
      obtain ⟨n3, h⟩ := gD_ok h
      refine at_leaf (ls2 := [(105, .ref 93), (0, .int x1), (0, .int a2), (0, dV)]) h3.1 ⟨Or.inr ⟨_, (h3.2 0 rfl).trans rfl⟩, Or.inr ⟨_, (h3.2 1 rfl).trans rfl⟩, Or.inr n2, Or.inl ⟨rfl, n3⟩, trivial⟩ ?_
      cases h; exact qb _ _ hq
    rcases mC_ok h with ⟨hb, h⟩ | ⟨_, h⟩
    · have e := Nat.eq_of_beq_eq_true hb
      subst e
      obtain ⟨hst, h⟩ := mN_ok h
      subst hst
      obtain ⟨a2, n2, h⟩ := gI_ok h
      refine at_leaf (ls2 := [(105, .ref 93), (0, .int x1), (0, .int a2), (0, .int x3)]) h3.1 ⟨Or.inr ⟨_, (h3.2 0 rfl).trans rfl⟩, Or.inr ⟨_, (h3.2 1 rfl).trans rfl⟩, Or.inr n2, Or.inr ⟨_, (h3.2 3 rfl).trans rfl⟩, trivial⟩ ?_
      exact s_Reader_sum_130 hcs x1 a2 x3 qb qe159 qr _ _ _ h hq
    cases h
  · intro v I2 _ h
    split at h
    · cases h; exact qr _ _ hq
    · cases h
def K_Reader_sum_64 (x1 : Int32) (x2 : Int32) (x3 : Int32) : M ((Int32 × Int32) ⊕ ((Int32) ⊕ Int32)) :=
  (if x3 = (43 : Int32) then
    (if x3 = (43 : Int32) then
      K_Reader_sum_89 (-1 : Int32) x2 x3
    else
      K_Reader_sum_89 (-2 : Int32) x2 x3)
  else
    (if x3 = (45 : Int32) then
      (if x3 = (43 : Int32) then
        K_Reader_sum_89 (-1 : Int32) x2 x3
      else
        K_Reader_sum_89 (-2 : Int32) x2 x3)
    else
      K_Reader_sum_89 x1 x2 x3))
set_option maxRecDepth 4000 in
theorem e_s_Reader_sum_64 (f_Law_add : Nat → Int32 → M Unit) (f_Reader_isReckoning : M Int32) (f_Reader_part : M Int32) (f_Reader_step : M Unit) (f_Reader_unit : M Int32) (k_89 : Int32 → Int32 → Int32 → M ((Int32 × Int32) ⊕ ((Int32) ⊕ Int32))) (x1 : Int32) (x2 : Int32) (x3 : Int32) : wf (β := (Int32 × Int32) ⊕ ((Int32) ⊕ Int32)) L X q_Reader_sum 2 (cs_Reader_sum f_Law_add f_Reader_isReckoning f_Reader_part f_Reader_step f_Reader_unit) [1] [13, 64, 89, 130, 159] (fun pc ls st => mC (Nat.beq pc 89) (mN st <| gI ls 1 fun a1 => k_89 a1 x2 x3) (fl)) (fun v => match v with | some (_, .int x) => rt (.inr (.inr x)) | _ => fl) 93 64 [(105, .ref 93), (0, .int x1), (0, .int x2), (0, .int x3)] [] = ((if x3 = (43 : Int32) then
    (if x3 = (43 : Int32) then
      k_89 (-1 : Int32) x2 x3
    else
      k_89 (-2 : Int32) x2 x3)
  else
    (if x3 = (45 : Int32) then
      (if x3 = (43 : Int32) then
        k_89 (-1 : Int32) x2 x3
      else
        k_89 (-2 : Int32) x2 x3)
    else
      k_89 x1 x2 x3))) := rfl
theorem s_Reader_sum_64 {d : Nat} (hcs : AllS L X d (cs_Reader_sum F_Law_add F_Reader_isReckoning F_Reader_part F_Reader_step F_Reader_unit)) (x1 : Int32) (x2 : Int32) (x3 : Int32) {o : Option Value × PH} {Q : ((Int32 × Int32) ⊕ ((Int32) ⊕ Int32)) → MI → Prop} (qb : ∀ y I, Q (.inl y) I → At L X (d + 1) 85 13 [(105, .ref 93), (0, .int y.1), (0, .int y.2), (0, dV)] [] I o) (qe159 : ∀ y I, Q (.inr (.inl y)) I → At L X (d + 1) 85 159 [(105, .ref 93), (0, .int y), (0, dV), (0, dV)] [] I o) (qr : ∀ v I, Q (.inr (.inr v)) I → o = (some (.int v), HH I)) (I : MI) (r : (Int32 × Int32) ⊕ ((Int32) ⊕ Int32)) (I1 : MI) (h : K_Reader_sum_64 x1 x2 x3 I = some (r, I1)) (hq : Q r I1) : At L X (d + 1) 85 64 [(105, .ref 93), (0, .int x1), (0, .int x2), (0, .int x3)] [] I o := by
  refine wf_ok z_Reader_sum hcs ?_ ?_ _ _ _ _ _ ⟨rfl, trivial, trivial, trivial, trivial⟩ trivial (unm_refl _ _) ((congrFun (e_s_Reader_sum_64 (L := L) (X := X) F_Law_add F_Reader_isReckoning F_Reader_part F_Reader_step F_Reader_unit K_Reader_sum_89 x1 x2 x3) I).trans h)
  · intro pc ls st I2 h1 h2 h3 h
    rcases mC_ok h with ⟨hb, h⟩ | ⟨_, h⟩
    · have e := Nat.eq_of_beq_eq_true hb
      subst e
      obtain ⟨hst, h⟩ := mN_ok h
      subst hst
      obtain ⟨a1, n1, h⟩ := gI_ok h
      refine at_leaf (ls2 := [(105, .ref 93), (0, .int a1), (0, .int x2), (0, .int x3)]) h3.1 ⟨Or.inr ⟨_, (h3.2 0 rfl).trans rfl⟩, Or.inr n1, Or.inr ⟨_, (h3.2 2 rfl).trans rfl⟩, Or.inr ⟨_, (h3.2 3 rfl).trans rfl⟩, trivial⟩ ?_
      exact s_Reader_sum_89 hcs a1 x2 x3 qb qe159 qr _ _ _ h hq
    cases h
  · intro v I2 _ h
    split at h
    · cases h; exact qr _ _ hq
    · cases h
def B_Reader_sum_13 (y : Int32 × Int32) : M ((Int32 × Int32) ⊕ ((Int32) ⊕ Int32)) :=
  (if y.2 < (400 : Int32) then
    bn (F_Reader_isReckoning) fun v1 =>
    (if v1 = 0 then
      rt (.inr (.inl y.1))
    else
      bn (rd 93 10) fun v2 =>
      bn (ld 401 108 v2) fun v3 =>
      (if v3 = (43 : Int32) then
        (if y.1 = 0 then
          K_Reader_sum_64 y.1 y.2 v3
        else
          bn (F_Law_add 95 y.1) fun _ =>
          K_Reader_sum_64 y.1 y.2 v3)
      else
        (if v3 = (45 : Int32) then
          (if y.1 = 0 then
            K_Reader_sum_64 y.1 y.2 v3
          else
            bn (F_Law_add 95 y.1) fun _ =>
            K_Reader_sum_64 y.1 y.2 v3)
        else
          K_Reader_sum_64 y.1 y.2 v3)))
  else
    rt (.inr (.inl y.1)))
set_option maxRecDepth 4000 in
theorem e_b_Reader_sum_13 (f_Law_add : Nat → Int32 → M Unit) (f_Reader_isReckoning : M Int32) (f_Reader_part : M Int32) (f_Reader_step : M Unit) (f_Reader_unit : M Int32) (k_64 : Int32 → Int32 → Int32 → M ((Int32 × Int32) ⊕ ((Int32) ⊕ Int32))) (y : Int32 × Int32) : wf (β := (Int32 × Int32) ⊕ ((Int32) ⊕ Int32)) L X q_Reader_sum 2 (cs_Reader_sum f_Law_add f_Reader_isReckoning f_Reader_part f_Reader_step f_Reader_unit) [3] [13, 64, 89, 130, 159] (fun pc ls st => mC (Nat.beq pc 64) (mN st <| gI ls 3 fun a3 => k_64 y.1 y.2 a3) (mC (Nat.beq pc 159) (mN st <| gD ls 2 <| gD ls 3 <| rt (.inr (.inl y.1))) (fl))) (fun v => match v with | some (_, .int x) => rt (.inr (.inr x)) | _ => fl) 93 13 [(105, .ref 93), (0, .int y.1), (0, .int y.2), (0, dV)] [] = ((if y.2 < (400 : Int32) then
    bn (f_Reader_isReckoning) fun v1 =>
    (if v1 = 0 then
      rt (.inr (.inl y.1))
    else
      bn (rd 93 10) fun v2 =>
      bn (ld 401 108 v2) fun v3 =>
      (if v3 = (43 : Int32) then
        (if y.1 = 0 then
          k_64 y.1 y.2 v3
        else
          bn (f_Law_add 95 y.1) fun _ =>
          k_64 y.1 y.2 v3)
      else
        (if v3 = (45 : Int32) then
          (if y.1 = 0 then
            k_64 y.1 y.2 v3
          else
            bn (f_Law_add 95 y.1) fun _ =>
            k_64 y.1 y.2 v3)
        else
          k_64 y.1 y.2 v3)))
  else
    rt (.inr (.inl y.1)))) := rfl
theorem b_Reader_sum_13 {d : Nat} (hcs : AllS L X d (cs_Reader_sum F_Law_add F_Reader_isReckoning F_Reader_part F_Reader_step F_Reader_unit)) {o : Option Value × PH} {Q : ((Int32 × Int32) ⊕ ((Int32) ⊕ Int32)) → MI → Prop} (qb : ∀ y I, Q (.inl y) I → At L X (d + 1) 85 13 [(105, .ref 93), (0, .int y.1), (0, .int y.2), (0, dV)] [] I o) (qe159 : ∀ y I, Q (.inr (.inl y)) I → At L X (d + 1) 85 159 [(105, .ref 93), (0, .int y), (0, dV), (0, dV)] [] I o) (qr : ∀ v I, Q (.inr (.inr v)) I → o = (some (.int v), HH I)) (y : Int32 × Int32) (I : MI) (r : (Int32 × Int32) ⊕ ((Int32) ⊕ Int32)) (I1 : MI) (h : B_Reader_sum_13 y I = some (r, I1)) (hq : Q r I1) : At L X (d + 1) 85 13 [(105, .ref 93), (0, .int y.1), (0, .int y.2), (0, dV)] [] I o := by
  refine wf_ok z_Reader_sum hcs ?_ ?_ _ _ _ _ _ ⟨rfl, trivial, trivial, trivial, trivial⟩ trivial (unm_refl _ _) ((congrFun (e_b_Reader_sum_13 (L := L) (X := X) F_Law_add F_Reader_isReckoning F_Reader_part F_Reader_step F_Reader_unit K_Reader_sum_64 y) I).trans h)
  · intro pc ls st I2 h1 h2 h3 h
    rcases mC_ok h with ⟨hb, h⟩ | ⟨_, h⟩
    · have e := Nat.eq_of_beq_eq_true hb
      subst e
      obtain ⟨hst, h⟩ := mN_ok h
      subst hst
      obtain ⟨a3, n3, h⟩ := gI_ok h
      refine at_leaf (ls2 := [(105, .ref 93), (0, .int y.1), (0, .int y.2), (0, .int a3)]) h3.1 ⟨Or.inr ⟨_, (h3.2 0 rfl).trans rfl⟩, Or.inr ⟨_, (h3.2 1 rfl).trans rfl⟩, Or.inr ⟨_, (h3.2 2 rfl).trans rfl⟩, Or.inr n3, trivial⟩ ?_
      exact s_Reader_sum_64 hcs y.1 y.2 a3 qb qe159 qr _ _ _ h hq
    rcases mC_ok h with ⟨hb, h⟩ | ⟨_, h⟩
    · have e := Nat.eq_of_beq_eq_true hb
      subst e
      obtain ⟨hst, h⟩ := mN_ok h
      subst hst
      obtain ⟨n2, h⟩ := gD_ok h
      obtain ⟨n3, h⟩ := gD_ok h
      refine at_leaf (ls2 := [(105, .ref 93), (0, .int y.1), (0, dV), (0, dV)]) h3.1 ⟨Or.inr ⟨_, (h3.2 0 rfl).trans rfl⟩, Or.inr ⟨_, (h3.2 1 rfl).trans rfl⟩, Or.inl ⟨rfl, n2⟩, Or.inl ⟨rfl, n3⟩, trivial⟩ ?_
      cases h; exact qe159 _ _ hq
    cases h
  · intro v I2 _ h
    split at h
    · cases h; exact qr _ _ hq
    · cases h
def K_Reader_sum_159 (x1 : Int32) : M (Int32) :=
  (if x1 = 0 then
    bn (gdZ (1 : Int32)) fun _ => rt (1 : Int32)
  else
    bn (F_Law_add 95 x1) fun _ =>
    bn (gdZ (1 : Int32)) fun _ => rt (1 : Int32))
set_option maxRecDepth 4000 in
theorem e_s_Reader_sum_159 (f_Law_add : Nat → Int32 → M Unit) (f_Reader_isReckoning : M Int32) (f_Reader_part : M Int32) (f_Reader_step : M Unit) (f_Reader_unit : M Int32) (x1 : Int32) : wf (β := Int32) L X q_Reader_sum 2 (cs_Reader_sum f_Law_add f_Reader_isReckoning f_Reader_part f_Reader_step f_Reader_unit) [] [13, 64, 89, 130, 159] (fun _ _ _ => fl) (fun v => match v with | some (_, .int x) => rt x | _ => fl) 93 159 [(105, .ref 93), (0, .int x1), (0, dV), (0, dV)] [] = ((if x1 = 0 then
    bn (gdZ (1 : Int32)) fun _ => rt (1 : Int32)
  else
    bn (f_Law_add 95 x1) fun _ =>
    bn (gdZ (1 : Int32)) fun _ => rt (1 : Int32))) := rfl
theorem s_Reader_sum_159 {d : Nat} (hcs : AllS L X d (cs_Reader_sum F_Law_add F_Reader_isReckoning F_Reader_part F_Reader_step F_Reader_unit)) (x1 : Int32) {o : Option Value × PH} {Q : (Int32) → MI → Prop} (q0 : ∀ v I, Q v I → o = (some (.int v), HH I)) (I : MI) (r : Int32) (I1 : MI) (h : K_Reader_sum_159 x1 I = some (r, I1)) (hq : Q r I1) : At L X (d + 1) 85 159 [(105, .ref 93), (0, .int x1), (0, dV), (0, dV)] [] I o := by
  refine wf_ok z_Reader_sum hcs ?_ ?_ _ _ _ _ _ ⟨rfl, trivial, trivial, trivial, trivial⟩ trivial (unm_refl _ _) ((congrFun (e_s_Reader_sum_159 (L := L) (X := X) F_Law_add F_Reader_isReckoning F_Reader_part F_Reader_step F_Reader_unit x1) I).trans h)
  · intro pc ls st I2 h1 h2 h3 h
    cases h
  · intro v I2 _ h
    split at h
    · cases h; exact q0 _ _ hq
    · cases h
def K_Reader_sum_13 (x1 : Int32) (x2 : Int32) : M (Int32) :=
  bn (lp (B_Reader_sum_13) FU (x1, x2)) fun e => match e with
  | .inl e => K_Reader_sum_159 e
  | .inr e => rt e
theorem s_Reader_sum_13 {d : Nat} (hcs : AllS L X d (cs_Reader_sum F_Law_add F_Reader_isReckoning F_Reader_part F_Reader_step F_Reader_unit)) (x1 : Int32) (x2 : Int32) {o : Option Value × PH} {Q : (Int32) → MI → Prop} (q0 : ∀ v I, Q v I → o = (some (.int v), HH I)) (I : MI) (r : Int32) (I1 : MI) (h : K_Reader_sum_13 x1 x2 I = some (r, I1)) (hq : Q r I1) : At L X (d + 1) 85 13 [(105, .ref 93), (0, .int x1), (0, .int x2), (0, dV)] [] I o := by
  unfold K_Reader_sum_13 at h
  obtain ⟨e, I2, h1, h2⟩ := bn_some h
  have w0 := fun w => at_lp (body := B_Reader_sum_13) (P := (fun (y : Int32 × Int32) I => At L X (d + 1) 85 13 [(105, .ref 93), (0, .int y.1), (0, .int y.2), (0, dV)] [] I o)) (Q := (fun (e : (Int32) ⊕ Int32) I => (match e with | .inl e => K_Reader_sum_159 e | .inr e => rt e : M (Int32)) I = some (r, I1))) w FU (x1, x2) I e I2 h1 h2
  refine w0 ?_
  intro y I r2 I3 h hq2
  exact b_Reader_sum_13 hcs (Q := SQ (fun (y : Int32 × Int32) I => At L X (d + 1) 85 13 [(105, .ref 93), (0, .int y.1), (0, .int y.2), (0, dV)] [] I o) (fun (e : (Int32) ⊕ Int32) I => (match e with | .inl e => K_Reader_sum_159 e | .inr e => rt e : M (Int32)) I = some (r, I1))) (fun _ _ w => w) (fun y I w => s_Reader_sum_159 hcs y q0 _ _ _ w hq) (fun v I w => by cases w; exact q0 _ _ hq) y I r2 I3 h hq2
def F_Reader_sum : M (Int32) :=
  bn (F_Reader_unit) fun v1 =>
  (if v1 = 0 then
    bn (gdZ (0 : Int32)) fun _ => rt (0 : Int32)
  else
    K_Reader_sum_13 (0 : Int32) (0 : Int32))
set_option maxRecDepth 4000 in
theorem e_s_Reader_sum_0 (f_Law_add : Nat → Int32 → M Unit) (f_Reader_isReckoning : M Int32) (f_Reader_part : M Int32) (f_Reader_step : M Unit) (f_Reader_unit : M Int32) (k_13 : Int32 → Int32 → M (Int32)) : wf (β := Int32) L X q_Reader_sum 2 (cs_Reader_sum f_Law_add f_Reader_isReckoning f_Reader_part f_Reader_step f_Reader_unit) [1, 2] [13, 64, 89, 130, 159] (fun pc ls st => mC (Nat.beq pc 13) (mN st <| gI ls 1 fun a1 => gI ls 2 fun a2 => gD ls 3 <| k_13 a1 a2) (fl)) (fun v => match v with | some (_, .int x) => rt x | _ => fl) 93 0 [(105, .ref 93), (0, dV), (0, dV), (0, dV)] [] = (bn (f_Reader_unit) fun v1 =>
  (if v1 = 0 then
    bn (gdZ (0 : Int32)) fun _ => rt (0 : Int32)
  else
    k_13 (0 : Int32) (0 : Int32))) := rfl
theorem s_Reader_sum_0 {d : Nat} (hcs : AllS L X d (cs_Reader_sum F_Law_add F_Reader_isReckoning F_Reader_part F_Reader_step F_Reader_unit)) {o : Option Value × PH} {Q : (Int32) → MI → Prop} (q0 : ∀ v I, Q v I → o = (some (.int v), HH I)) (I : MI) (r : Int32) (I1 : MI) (h : F_Reader_sum I = some (r, I1)) (hq : Q r I1) : At L X (d + 1) 85 0 [(105, .ref 93), (0, dV), (0, dV), (0, dV)] [] I o := by
  refine wf_ok z_Reader_sum hcs ?_ ?_ _ _ _ _ _ ⟨rfl, trivial, trivial, trivial, trivial⟩ trivial (unm_refl _ _) ((congrFun (e_s_Reader_sum_0 (L := L) (X := X) F_Law_add F_Reader_isReckoning F_Reader_part F_Reader_step F_Reader_unit K_Reader_sum_13) I).trans h)
  · intro pc ls st I2 h1 h2 h3 h
    rcases mC_ok h with ⟨hb, h⟩ | ⟨_, h⟩
    · have e := Nat.eq_of_beq_eq_true hb
      subst e
      obtain ⟨hst, h⟩ := mN_ok h
      subst hst
      obtain ⟨a1, n1, h⟩ := gI_ok h
      obtain ⟨a2, n2, h⟩ := gI_ok h
      obtain ⟨n3, h⟩ := gD_ok h
      refine at_leaf (ls2 := [(105, .ref 93), (0, .int a1), (0, .int a2), (0, dV)]) h3.1 ⟨Or.inr ⟨_, (h3.2 0 rfl).trans rfl⟩, Or.inr n1, Or.inr n2, Or.inl ⟨rfl, n3⟩, trivial⟩ ?_
      exact s_Reader_sum_13 hcs a1 a2 q0 _ _ _ h hq
    cases h
  · intro v I2 _ h
    split at h
    · cases h; exact q0 _ _ hq
    · cases h
theorem w_Reader_sum {d : Nat} (hcs : AllS L X d (cs_Reader_sum F_Law_add F_Reader_isReckoning F_Reader_part F_Reader_step F_Reader_unit)) : Snd L X (d + 1) 85 1 (W_Reader_sum F_Reader_sum) := by
  refine ⟨_, z_Reader_sum, rfl, fun β args k I r hty hlen h => ?_⟩
  unfold W_Reader_sum at h
  split at h
  · rename_i t0 a0
    obtain ⟨hb0, h⟩ := mB_ok h
    have e0 := Nat.eq_of_beq_eq_true hb0
    have g0 : okB 105 a0 = true := e0 ▸ hty.1
    have e20 := one_105 g0
    subst e20
    obtain ⟨v, I1, h1, h2⟩ := bn_some h
    refine ⟨gf_obj (c := 5) (by decide) g0, rfl, some (0, .int v), I1, trivial, ?_, h2⟩
    exact s_Reader_sum_0 hcs   (Q := fun w I => w = v ∧ I = I1) (fun w I q => by obtain ⟨rfl, rfl⟩ := q; rfl) I v I1 h1 ⟨rfl, rfl⟩
  · cases h
theorem S_Reader_sum {d : Nat} (hd : 3 ≤ d) : Snd L X d 85 1 (W_Reader_sum F_Reader_sum) := by
  obtain ⟨e, rfl⟩ : ∃ e, d = e + 1 := ⟨d - 1, by omega⟩
  exact w_Reader_sum ⟨S_Law_add (by omega), S_Reader_isReckoning (by omega), S_Reader_part (by omega), S_Reader_step (by omega), S_Reader_unit (by omega), trivial⟩
set_option maxRecDepth 100000 in
theorem z_Reader_opens : pT[94]? = some (q_Reader_opens, 2, 2, 2, 5) := rfl
def W_Reader_opens (F : Int32 → M Int32) : CSem := fun _ args k => match args with
  | [(t0, .ref a0), (_, .int a1)] => mB (Nat.beq t0 105) <| bn (F a1) fun v => k (some (0, .int v))
  | _ => fl
def cs_Reader_opens (f_Reader_fail : Int32 → M Int32) (f_Reader_step : M Unit) : List (Nat × Nat × CSem) := [(80, 2, W_Reader_fail f_Reader_fail), (84, 1, W_Reader_step f_Reader_step)]
def F_Reader_opens (x1 : Int32) : M (Int32) :=
  (if x1 < (8 : Int32) then
    bn (F_Reader_step) fun _ =>
    bn (gdZ (1 : Int32)) fun _ => rt (1 : Int32)
  else
    bn (F_Reader_fail (3 : Int32)) fun v1 =>
    bn (gdZ v1) fun _ => rt v1)
set_option maxRecDepth 4000 in
theorem e_s_Reader_opens_0 (f_Reader_fail : Int32 → M Int32) (f_Reader_step : M Unit) (x1 : Int32) : wf (β := Int32) L X q_Reader_opens 2 (cs_Reader_opens f_Reader_fail f_Reader_step) [] [] (fun _ _ _ => fl) (fun v => match v with | some (_, .int x) => rt x | _ => fl) 16 0 [(105, .ref 93), (0, .int x1)] [] = ((if x1 < (8 : Int32) then
    bn (f_Reader_step) fun _ =>
    bn (gdZ (1 : Int32)) fun _ => rt (1 : Int32)
  else
    bn (f_Reader_fail (3 : Int32)) fun v1 =>
    bn (gdZ v1) fun _ => rt v1)) := rfl
theorem s_Reader_opens_0 {d : Nat} (hcs : AllS L X d (cs_Reader_opens F_Reader_fail F_Reader_step)) (x1 : Int32) {o : Option Value × PH} {Q : (Int32) → MI → Prop} (q0 : ∀ v I, Q v I → o = (some (.int v), HH I)) (I : MI) (r : Int32) (I1 : MI) (h : F_Reader_opens x1 I = some (r, I1)) (hq : Q r I1) : At L X (d + 1) 94 0 [(105, .ref 93), (0, .int x1)] [] I o := by
  refine wf_ok z_Reader_opens hcs ?_ ?_ _ _ _ _ _ ⟨rfl, trivial, trivial⟩ trivial (unm_refl _ _) ((congrFun (e_s_Reader_opens_0 (L := L) (X := X) F_Reader_fail F_Reader_step x1) I).trans h)
  · intro pc ls st I2 h1 h2 h3 h
    cases h
  · intro v I2 _ h
    split at h
    · cases h; exact q0 _ _ hq
    · cases h
theorem w_Reader_opens {d : Nat} (hcs : AllS L X d (cs_Reader_opens F_Reader_fail F_Reader_step)) : Snd L X (d + 1) 94 2 (W_Reader_opens F_Reader_opens) := by
  refine ⟨_, z_Reader_opens, rfl, fun β args k I r hty hlen h => ?_⟩
  unfold W_Reader_opens at h
  split at h
  · rename_i t0 a0 u1 a1
    obtain ⟨hb0, h⟩ := mB_ok h
    have e0 := Nat.eq_of_beq_eq_true hb0
    have g0 : okB 105 a0 = true := e0 ▸ hty.1
    have e20 := one_105 g0
    subst e20
    obtain ⟨v, I1, h1, h2⟩ := bn_some h
    refine ⟨gf_obj (c := 5) (by decide) g0, rfl, some (0, .int v), I1, trivial, ?_, h2⟩
    exact s_Reader_opens_0 hcs a1  (Q := fun w I => w = v ∧ I = I1) (fun w I q => by obtain ⟨rfl, rfl⟩ := q; rfl) I v I1 h1 ⟨rfl, rfl⟩
  · cases h
theorem S_Reader_opens {d : Nat} (hd : 2 ≤ d) : Snd L X d 94 2 (W_Reader_opens F_Reader_opens) := by
  obtain ⟨e, rfl⟩ : ∃ e, d = e + 1 := ⟨d - 1, by omega⟩
  exact w_Reader_opens ⟨S_Reader_fail (by omega), S_Reader_step (by omega), trivial⟩
set_option maxRecDepth 100000 in
theorem z_Reader_condition : pT[91]? = some (q_Reader_condition, 2, 5, 2, 5) := rfl
def W_Reader_condition (F : Int32 → M Int32) : CSem := fun _ args k => match args with
  | [(t0, .ref a0), (_, .int a1)] => mB (Nat.beq t0 105) <| bn (F a1) fun v => k (some (0, .int v))
  | _ => fl
set_option maxRecDepth 100000 in
theorem z_Reader_single : pT[92]? = some (q_Reader_single, 2, 3, 2, 5) := rfl
def W_Reader_single (F : Int32 → M Int32) : CSem := fun _ args k => match args with
  | [(t0, .ref a0), (_, .int a1)] => mB (Nat.beq t0 105) <| bn (F a1) fun v => k (some (0, .int v))
  | _ => fl
set_option maxRecDepth 100000 in
theorem z_Reader_denied : pT[93]? = some (q_Reader_denied, 2, 2, 2, 5) := rfl
def W_Reader_denied (F : Int32 → M Int32) : CSem := fun _ args k => match args with
  | [(t0, .ref a0), (_, .int a1)] => mB (Nat.beq t0 105) <| bn (F a1) fun v => k (some (0, .int v))
  | _ => fl
set_option maxRecDepth 100000 in
theorem z_Reader_enclosed : pT[95]? = some (q_Reader_enclosed, 2, 2, 2, 5) := rfl
def W_Reader_enclosed (F : Int32 → M Int32) : CSem := fun _ args k => match args with
  | [(t0, .ref a0), (_, .int a1)] => mB (Nat.beq t0 105) <| bn (F a1) fun v => k (some (0, .int v))
  | _ => fl
def cs_Reader_condition (f_Law_add : Nat → Int32 → M Unit) (f_Reader_isKeyword : Int32 → M Int32) (f_Reader_single : Int32 → M Int32) (f_Reader_step : M Unit) : List (Nat × Nat × CSem) := [(87, 2, W_Law_add f_Law_add), (82, 2, W_Reader_isKeyword f_Reader_isKeyword), (92, 2, W_Reader_single f_Reader_single), (84, 1, W_Reader_step f_Reader_step)]
def K_Reader_condition_74 (f_Reader_single : Int32 → M Int32) (x1 : Int32) (x3 : Int32) (x4 : Int32) : M ((Int32 × Int32) ⊕ ((Int32) ⊕ Int32)) :=
  bn (F_Reader_step) fun _ =>
  bn (f_Reader_single x1) fun v1 =>
  (if v1 = 0 then
    bn (gdZ (0 : Int32)) fun _ => rt (.inr (.inr (0 : Int32)))
  else
    (if x4 = 0 then
      rt (.inl ((1 : Int32), (x3 + (1 : Int32))))
    else
      bn (F_Law_add 95 (-9 : Int32)) fun _ =>
      rt (.inl ((1 : Int32), (x3 + (1 : Int32))))))
set_option maxRecDepth 4000 in
theorem e_s_Reader_condition_74 (f_Law_add : Nat → Int32 → M Unit) (f_Reader_isKeyword : Int32 → M Int32) (f_Reader_single : Int32 → M Int32) (f_Reader_step : M Unit) (x1 : Int32) (x3 : Int32) (x4 : Int32) : wf (β := (Int32 × Int32) ⊕ ((Int32) ⊕ Int32)) L X q_Reader_condition 2 (cs_Reader_condition f_Law_add f_Reader_isKeyword f_Reader_single f_Reader_step) [2, 3] [14, 65, 74, 117] (fun pc ls st => mC (Nat.beq pc 14) (mN st <| gI ls 2 fun a2 => gI ls 3 fun a3 => gD ls 4 <| rt (.inl (a2, a3))) (fl)) (fun v => match v with | some (_, .int x) => rt (.inr (.inr x)) | _ => fl) 73 74 [(105, .ref 93), (0, .int x1), (0, dV), (0, .int x3), (0, .int x4)] [] = (bn (f_Reader_step) fun _ =>
  bn (f_Reader_single x1) fun v1 =>
  (if v1 = 0 then
    bn (gdZ (0 : Int32)) fun _ => rt (.inr (.inr (0 : Int32)))
  else
    (if x4 = 0 then
      rt (.inl ((1 : Int32), (x3 + (1 : Int32))))
    else
      bn (f_Law_add 95 (-9 : Int32)) fun _ =>
      rt (.inl ((1 : Int32), (x3 + (1 : Int32))))))) := rfl
theorem s_Reader_condition_74 {d : Nat} (f_Reader_single : Int32 → M Int32) (hcs : AllS L X d (cs_Reader_condition F_Law_add F_Reader_isKeyword f_Reader_single F_Reader_step)) (x1 : Int32) (x3 : Int32) (x4 : Int32) {o : Option Value × PH} {Q : ((Int32 × Int32) ⊕ ((Int32) ⊕ Int32)) → MI → Prop} (qb : ∀ y I, Q (.inl y) I → At L X (d + 1) 91 14 [(105, .ref 93), (0, .int x1), (0, .int y.1), (0, .int y.2), (0, dV)] [] I o) (qe117 : ∀ y I, Q (.inr (.inl y)) I → At L X (d + 1) 91 117 [(105, .ref 93), (0, dV), (0, .int y), (0, dV), (0, dV)] [] I o) (qr : ∀ v I, Q (.inr (.inr v)) I → o = (some (.int v), HH I)) (I : MI) (r : (Int32 × Int32) ⊕ ((Int32) ⊕ Int32)) (I1 : MI) (h : K_Reader_condition_74 f_Reader_single x1 x3 x4 I = some (r, I1)) (hq : Q r I1) : At L X (d + 1) 91 74 [(105, .ref 93), (0, .int x1), (0, dV), (0, .int x3), (0, .int x4)] [] I o := by
  refine wf_ok z_Reader_condition hcs ?_ ?_ _ _ _ _ _ ⟨rfl, trivial, trivial, trivial, trivial, trivial⟩ trivial (unm_refl _ _) ((congrFun (e_s_Reader_condition_74 (L := L) (X := X) F_Law_add F_Reader_isKeyword f_Reader_single F_Reader_step x1 x3 x4) I).trans h)
  · intro pc ls st I2 h1 h2 h3 h
    rcases mC_ok h with ⟨hb, h⟩ | ⟨_, h⟩
    · have e := Nat.eq_of_beq_eq_true hb
      subst e
      obtain ⟨hst, h⟩ := mN_ok h
      subst hst
      obtain ⟨a2, n2, h⟩ := gI_ok h
      obtain ⟨a3, n3, h⟩ := gI_ok h
      obtain ⟨n4, h⟩ := gD_ok h
      refine at_leaf (ls2 := [(105, .ref 93), (0, .int x1), (0, .int a2), (0, .int a3), (0, dV)]) h3.1 ⟨Or.inr ⟨_, (h3.2 0 rfl).trans rfl⟩, Or.inr ⟨_, (h3.2 1 rfl).trans rfl⟩, Or.inr n2, Or.inr n3, Or.inl ⟨rfl, n4⟩, trivial⟩ ?_
      cases h; exact qb _ _ hq
    cases h
  · intro v I2 _ h
    split at h
    · cases h; exact qr _ _ hq
    · cases h
def K_Reader_condition_65 (f_Reader_single : Int32 → M Int32) (x1 : Int32) (x2 : Int32) (x3 : Int32) (x4 : Int32) : M ((Int32 × Int32) ⊕ ((Int32) ⊕ Int32)) :=
  (if x2 = 0 then
    (if x4 = 0 then
      K_Reader_condition_74 f_Reader_single x1 x3 x4
    else
      bn (F_Reader_step) fun _ =>
      bn (f_Reader_single x1) fun v1 =>
      (if v1 = 0 then
        bn (gdZ (0 : Int32)) fun _ => rt (.inr (.inr (0 : Int32)))
      else
        (if x4 = 0 then
          rt (.inl ((0 : Int32), (x3 + (1 : Int32))))
        else
          bn (F_Law_add 95 (-9 : Int32)) fun _ =>
          rt (.inl ((0 : Int32), (x3 + (1 : Int32)))))))
  else
    K_Reader_condition_74 f_Reader_single x1 x3 x4)
set_option maxRecDepth 4000 in
theorem e_s_Reader_condition_65 (f_Law_add : Nat → Int32 → M Unit) (f_Reader_isKeyword : Int32 → M Int32) (f_Reader_single : Int32 → M Int32) (f_Reader_step : M Unit) (k_74 : Int32 → Int32 → Int32 → M ((Int32 × Int32) ⊕ ((Int32) ⊕ Int32))) (x1 : Int32) (x2 : Int32) (x3 : Int32) (x4 : Int32) : wf (β := (Int32 × Int32) ⊕ ((Int32) ⊕ Int32)) L X q_Reader_condition 2 (cs_Reader_condition f_Law_add f_Reader_isKeyword f_Reader_single f_Reader_step) [2, 3] [14, 65, 74, 117] (fun pc ls st => mC (Nat.beq pc 14) (mN st <| gI ls 2 fun a2 => gI ls 3 fun a3 => gD ls 4 <| rt (.inl (a2, a3))) (mC (Nat.beq pc 74) (mN st <| gD ls 2 <| gI ls 3 fun a3 => k_74 x1 a3 x4) (fl))) (fun v => match v with | some (_, .int x) => rt (.inr (.inr x)) | _ => fl) 73 65 [(105, .ref 93), (0, .int x1), (0, .int x2), (0, .int x3), (0, .int x4)] [] = ((if x2 = 0 then
    (if x4 = 0 then
      k_74 x1 x3 x4
    else
      bn (f_Reader_step) fun _ =>
      bn (f_Reader_single x1) fun v1 =>
      (if v1 = 0 then
        bn (gdZ (0 : Int32)) fun _ => rt (.inr (.inr (0 : Int32)))
      else
        (if x4 = 0 then
          rt (.inl ((0 : Int32), (x3 + (1 : Int32))))
        else
          bn (f_Law_add 95 (-9 : Int32)) fun _ =>
          rt (.inl ((0 : Int32), (x3 + (1 : Int32)))))))
  else
    k_74 x1 x3 x4)) := rfl
theorem s_Reader_condition_65 {d : Nat} (f_Reader_single : Int32 → M Int32) (hcs : AllS L X d (cs_Reader_condition F_Law_add F_Reader_isKeyword f_Reader_single F_Reader_step)) (x1 : Int32) (x2 : Int32) (x3 : Int32) (x4 : Int32) {o : Option Value × PH} {Q : ((Int32 × Int32) ⊕ ((Int32) ⊕ Int32)) → MI → Prop} (qb : ∀ y I, Q (.inl y) I → At L X (d + 1) 91 14 [(105, .ref 93), (0, .int x1), (0, .int y.1), (0, .int y.2), (0, dV)] [] I o) (qe117 : ∀ y I, Q (.inr (.inl y)) I → At L X (d + 1) 91 117 [(105, .ref 93), (0, dV), (0, .int y), (0, dV), (0, dV)] [] I o) (qr : ∀ v I, Q (.inr (.inr v)) I → o = (some (.int v), HH I)) (I : MI) (r : (Int32 × Int32) ⊕ ((Int32) ⊕ Int32)) (I1 : MI) (h : K_Reader_condition_65 f_Reader_single x1 x2 x3 x4 I = some (r, I1)) (hq : Q r I1) : At L X (d + 1) 91 65 [(105, .ref 93), (0, .int x1), (0, .int x2), (0, .int x3), (0, .int x4)] [] I o := by
  refine wf_ok z_Reader_condition hcs ?_ ?_ _ _ _ _ _ ⟨rfl, trivial, trivial, trivial, trivial, trivial⟩ trivial (unm_refl _ _) ((congrFun (e_s_Reader_condition_65 (L := L) (X := X) F_Law_add F_Reader_isKeyword f_Reader_single F_Reader_step (K_Reader_condition_74 f_Reader_single) x1 x2 x3 x4) I).trans h)
  · intro pc ls st I2 h1 h2 h3 h
    rcases mC_ok h with ⟨hb, h⟩ | ⟨_, h⟩
    · have e := Nat.eq_of_beq_eq_true hb
      subst e
      obtain ⟨hst, h⟩ := mN_ok h
      subst hst
      obtain ⟨a2, n2, h⟩ := gI_ok h
      obtain ⟨a3, n3, h⟩ := gI_ok h
      obtain ⟨n4, h⟩ := gD_ok h
      refine at_leaf (ls2 := [(105, .ref 93), (0, .int x1), (0, .int a2), (0, .int a3), (0, dV)]) h3.1 ⟨Or.inr ⟨_, (h3.2 0 rfl).trans rfl⟩, Or.inr ⟨_, (h3.2 1 rfl).trans rfl⟩, Or.inr n2, Or.inr n3, Or.inl ⟨rfl, n4⟩, trivial⟩ ?_
      cases h; exact qb _ _ hq
    rcases mC_ok h with ⟨hb, h⟩ | ⟨_, h⟩
    · have e := Nat.eq_of_beq_eq_true hb
      subst e
      obtain ⟨hst, h⟩ := mN_ok h
      subst hst
      obtain ⟨n2, h⟩ := gD_ok h
      obtain ⟨a3, n3, h⟩ := gI_ok h
      refine at_leaf (ls2 := [(105, .ref 93), (0, .int x1), (0, dV), (0, .int a3), (0, .int x4)]) h3.1 ⟨Or.inr ⟨_, (h3.2 0 rfl).trans rfl⟩, Or.inr ⟨_, (h3.2 1 rfl).trans rfl⟩, Or.inl ⟨rfl, n2⟩, Or.inr n3, Or.inr ⟨_, (h3.2 4 rfl).trans rfl⟩, trivial⟩ ?_
      exact s_Reader_condition_74 f_Reader_single hcs x1 a3 x4 qb qe117 qr _ _ _ h hq
    cases h
  · intro v I2 _ h
    split at h
    · cases h; exact qr _ _ hq
    · cases h
def B_Reader_condition_14 (f_Reader_single : Int32 → M Int32) (x1 : Int32) (y : Int32 × Int32) : M ((Int32 × Int32) ⊕ ((Int32) ⊕ Int32)) :=
  (if y.2 < (400 : Int32) then
    bn (F_Reader_isKeyword (5 : Int32)) fun v1 =>
    (if v1 = 0 then
      bn (F_Reader_isKeyword (4 : Int32)) fun v3 =>
      (if v3 = 0 then
        rt (.inr (.inl y.1))
      else
        bn (F_Reader_isKeyword (5 : Int32)) fun v4 =>
        (if v4 = 0 then
          (if y.1 = 0 then
            K_Reader_condition_65 f_Reader_single x1 y.1 y.2 v4
          else
            bn (F_Law_add 95 (-10 : Int32)) fun _ =>
            K_Reader_condition_65 f_Reader_single x1 y.1 y.2 v4)
        else
          K_Reader_condition_65 f_Reader_single x1 y.1 y.2 v4))
    else
      bn (F_Reader_isKeyword (5 : Int32)) fun v2 =>
      (if v2 = 0 then
        (if y.1 = 0 then
          K_Reader_condition_65 f_Reader_single x1 y.1 y.2 v2
        else
          bn (F_Law_add 95 (-10 : Int32)) fun _ =>
          K_Reader_condition_65 f_Reader_single x1 y.1 y.2 v2)
      else
        K_Reader_condition_65 f_Reader_single x1 y.1 y.2 v2))
  else
    rt (.inr (.inl y.1)))
set_option maxRecDepth 4000 in
theorem e_b_Reader_condition_14 (f_Law_add : Nat → Int32 → M Unit) (f_Reader_isKeyword : Int32 → M Int32) (f_Reader_single : Int32 → M Int32) (f_Reader_step : M Unit) (k_65 : Int32 → Int32 → Int32 → Int32 → M ((Int32 × Int32) ⊕ ((Int32) ⊕ Int32))) (x1 : Int32) (y : Int32 × Int32) : wf (β := (Int32 × Int32) ⊕ ((Int32) ⊕ Int32)) L X q_Reader_condition 2 (cs_Reader_condition f_Law_add f_Reader_isKeyword f_Reader_single f_Reader_step) [4] [14, 65, 74, 117] (fun pc ls st => mC (Nat.beq pc 65) (mN st <| gI ls 4 fun a4 => k_65 x1 y.1 y.2 a4) (mC (Nat.beq pc 117) (mN st <| gD ls 1 <| gD ls 3 <| gD ls 4 <| rt (.inr (.inl y.1))) (fl))) (fun v => match v with | some (_, .int x) => rt (.inr (.inr x)) | _ => fl) 73 14 [(105, .ref 93), (0, .int x1), (0, .int y.1), (0, .int y.2), (0, dV)] [] = ((if y.2 < (400 : Int32) then
    bn (f_Reader_isKeyword (5 : Int32)) fun v1 =>
    (if v1 = 0 then
      bn (f_Reader_isKeyword (4 : Int32)) fun v3 =>
      (if v3 = 0 then
        rt (.inr (.inl y.1))
      else
        bn (f_Reader_isKeyword (5 : Int32)) fun v4 =>
        (if v4 = 0 then
          (if y.1 = 0 then
            k_65 x1 y.1 y.2 v4
          else
            bn (f_Law_add 95 (-10 : Int32)) fun _ =>
            k_65 x1 y.1 y.2 v4)
        else
          k_65 x1 y.1 y.2 v4))
    else
      bn (f_Reader_isKeyword (5 : Int32)) fun v2 =>
      (if v2 = 0 then
        (if y.1 = 0 then
          k_65 x1 y.1 y.2 v2
        else
          bn (f_Law_add 95 (-10 : Int32)) fun _ =>
          k_65 x1 y.1 y.2 v2)
      else
        k_65 x1 y.1 y.2 v2))
  else
    rt (.inr (.inl y.1)))) := rfl
theorem b_Reader_condition_14 {d : Nat} (f_Reader_single : Int32 → M Int32) (hcs : AllS L X d (cs_Reader_condition F_Law_add F_Reader_isKeyword f_Reader_single F_Reader_step)) (x1 : Int32) {o : Option Value × PH} {Q : ((Int32 × Int32) ⊕ ((Int32) ⊕ Int32)) → MI → Prop} (qb : ∀ y I, Q (.inl y) I → At L X (d + 1) 91 14 [(105, .ref 93), (0, .int x1), (0, .int y.1), (0, .int y.2), (0, dV)] [] I o) (qe117 : ∀ y I, Q (.inr (.inl y)) I → At L X (d + 1) 91 117 [(105, .ref 93), (0, dV), (0, .int y), (0, dV), (0, dV)] [] I o) (qr : ∀ v I, Q (.inr (.inr v)) I → o = (some (.int v), HH I)) (y : Int32 × Int32) (I : MI) (r : (Int32 × Int32) ⊕ ((Int32) ⊕ Int32)) (I1 : MI) (h : B_Reader_condition_14 f_Reader_single x1 y I = some (r, I1)) (hq : Q r I1) : At L X (d + 1) 91 14 [(105, .ref 93), (0, .int x1), (0, .int y.1), (0, .int y.2), (0, dV)] [] I o := by
  refine wf_ok z_Reader_condition hcs ?_ ?_ _ _ _ _ _ ⟨rfl, trivial, trivial, trivial, trivial, trivial⟩ trivial (unm_refl _ _) ((congrFun (e_b_Reader_condition_14 (L := L) (X := X) F_Law_add F_Reader_isKeyword f_Reader_single F_Reader_step (K_Reader_condition_65 f_Reader_single) x1 y) I).trans h)
  · intro pc ls st I2 h1 h2 h3 h
    rcases mC_ok h with ⟨hb, h⟩ | ⟨_, h⟩
    · have e := Nat.eq_of_beq_eq_true hb
      subst e
      obtain ⟨hst, h⟩ := mN_ok h
      subst hst
      obtain ⟨a4, n4, h⟩ := gI_ok h
      refine at_leaf (ls2 := [(105, .ref 93), (0, .int x1), (0, .int y.1), (0, .int y.2), (0, .int a4)]) h3.1 ⟨Or.inr ⟨_, (h3.2 0 rfl).trans rfl⟩, Or.inr ⟨_, (h3.2 1 rfl).trans rfl⟩, Or.inr ⟨_, (h3.2 2 rfl).trans rfl⟩, Or.inr ⟨_, (h3.2 3 rfl).trans rfl⟩, Or.inr n4, trivial⟩ ?_
      exact s_Reader_condition_65 f_Reader_single hcs x1 y.1 y.2 a4 qb qe117 qr _ _ _ h hq
    rcases mC_ok h with ⟨hb, h⟩ | ⟨_, h⟩
    · have e := Nat.eq_of_beq_eq_true hb
      subst e
      obtain ⟨hst, h⟩ := mN_ok h
      subst hst
      obtain ⟨n1, h⟩ := gD_ok h
      obtain ⟨n3, h⟩ := gD_ok h
      obtain ⟨n4, h⟩ := gD_ok h
      refine at_leaf (ls2 := [(105, .ref 93), (0, dV), (0, .int y.1), (0, dV), (0, dV)]) h3.1 ⟨Or.inr ⟨_, (h3.2 0 rfl).trans rfl⟩, Or.inl ⟨rfl, n1⟩, Or.inr ⟨_, (h3.2 2 rfl).trans rfl⟩, Or.inl ⟨rfl, n3⟩, Or.inl ⟨rfl, n4⟩, trivial⟩ ?_
      cases h; exact qe117 _ _ hq
    cases h
  · intro v I2 _ h
    split at h
    · cases h; exact qr _ _ hq
    · cases h
def K_Reader_condition_117 (f_Reader_single : Int32 → M Int32) (x2 : Int32) : M (Int32) :=
  (if x2 = 0 then
    bn (gdZ (1 : Int32)) fun _ => rt (1 : Int32)
  else
    bn (F_Law_add 95 (-10 : Int32)) fun _ =>
    bn (gdZ (1 : Int32)) fun _ => rt (1 : Int32))
set_option maxRecDepth 4000 in
theorem e_s_Reader_condition_117 (f_Law_add : Nat → Int32 → M Unit) (f_Reader_isKeyword : Int32 → M Int32) (f_Reader_single : Int32 → M Int32) (f_Reader_step : M Unit) (x2 : Int32) : wf (β := Int32) L X q_Reader_condition 2 (cs_Reader_condition f_Law_add f_Reader_isKeyword f_Reader_single f_Reader_step) [] [14, 65, 74, 117] (fun _ _ _ => fl) (fun v => match v with | some (_, .int x) => rt x | _ => fl) 73 117 [(105, .ref 93), (0, dV), (0, .int x2), (0, dV), (0, dV)] [] = ((if x2 = 0 then
    bn (gdZ (1 : Int32)) fun _ => rt (1 : Int32)
  else
    bn (f_Law_add 95 (-10 : Int32)) fun _ =>
    bn (gdZ (1 : Int32)) fun _ => rt (1 : Int32))) := rfl
theorem s_Reader_condition_117 {d : Nat} (f_Reader_single : Int32 → M Int32) (hcs : AllS L X d (cs_Reader_condition F_Law_add F_Reader_isKeyword f_Reader_single F_Reader_step)) (x2 : Int32) {o : Option Value × PH} {Q : (Int32) → MI → Prop} (q0 : ∀ v I, Q v I → o = (some (.int v), HH I)) (I : MI) (r : Int32) (I1 : MI) (h : K_Reader_condition_117 f_Reader_single x2 I = some (r, I1)) (hq : Q r I1) : At L X (d + 1) 91 117 [(105, .ref 93), (0, dV), (0, .int x2), (0, dV), (0, dV)] [] I o := by
  refine wf_ok z_Reader_condition hcs ?_ ?_ _ _ _ _ _ ⟨rfl, trivial, trivial, trivial, trivial, trivial⟩ trivial (unm_refl _ _) ((congrFun (e_s_Reader_condition_117 (L := L) (X := X) F_Law_add F_Reader_isKeyword f_Reader_single F_Reader_step x2) I).trans h)
  · intro pc ls st I2 h1 h2 h3 h
    cases h
  · intro v I2 _ h
    split at h
    · cases h; exact q0 _ _ hq
    · cases h
def K_Reader_condition_14 (f_Reader_single : Int32 → M Int32) (x1 : Int32) (x2 : Int32) (x3 : Int32) : M (Int32) :=
  bn (lp (B_Reader_condition_14 f_Reader_single x1) FU (x2, x3)) fun e => match e with
  | .inl e => K_Reader_condition_117 f_Reader_single e
  | .inr e => rt e
theorem s_Reader_condition_14 {d : Nat} (f_Reader_single : Int32 → M Int32) (hcs : AllS L X d (cs_Reader_condition F_Law_add F_Reader_isKeyword f_Reader_single F_Reader_step)) (x1 : Int32) (x2 : Int32) (x3 : Int32) {o : Option Value × PH} {Q : (Int32) → MI → Prop} (q0 : ∀ v I, Q v I → o = (some (.int v), HH I)) (I : MI) (r : Int32) (I1 : MI) (h : K_Reader_condition_14 f_Reader_single x1 x2 x3 I = some (r, I1)) (hq : Q r I1) : At L X (d + 1) 91 14 [(105, .ref 93), (0, .int x1), (0, .int x2), (0, .int x3), (0, dV)] [] I o := by
  unfold K_Reader_condition_14 at h
  obtain ⟨e, I2, h1, h2⟩ := bn_some h
  have w0 := fun w => at_lp (body := B_Reader_condition_14 f_Reader_single x1) (P := (fun (y : Int32 × Int32) I => At L X (d + 1) 91 14 [(105, .ref 93), (0, .int x1), (0, .int y.1), (0, .int y.2), (0, dV)] [] I o)) (Q := (fun (e : (Int32) ⊕ Int32) I => (match e with | .inl e => K_Reader_condition_117 f_Reader_single e | .inr e => rt e : M (Int32)) I = some (r, I1))) w FU (x2, x3) I e I2 h1 h2
  refine w0 ?_
  intro y I r2 I3 h hq2
  exact b_Reader_condition_14 f_Reader_single hcs x1 (Q := SQ (fun (y : Int32 × Int32) I => At L X (d + 1) 91 14 [(105, .ref 93), (0, .int x1), (0, .int y.1), (0, .int y.2), (0, dV)] [] I o) (fun (e : (Int32) ⊕ Int32) I => (match e with | .inl e => K_Reader_condition_117 f_Reader_single e | .inr e => rt e : M (Int32)) I = some (r, I1))) (fun _ _ w => w) (fun y I w => s_Reader_condition_117 f_Reader_single hcs y q0 _ _ _ w hq) (fun v I w => by cases w; exact q0 _ _ hq) y I r2 I3 h hq2
def K_Reader_condition_0 (f_Reader_single : Int32 → M Int32) (x1 : Int32) : M (Int32) :=
  bn (f_Reader_single x1) fun v1 =>
  (if v1 = 0 then
    bn (gdZ (0 : Int32)) fun _ => rt (0 : Int32)
  else
    K_Reader_condition_14 f_Reader_single x1 (0 : Int32) (0 : Int32))
set_option maxRecDepth 4000 in
theorem e_s_Reader_condition_0 (f_Law_add : Nat → Int32 → M Unit) (f_Reader_isKeyword : Int32 → M Int32) (f_Reader_single : Int32 → M Int32) (f_Reader_step : M Unit) (k_14 : Int32 → Int32 → Int32 → M (Int32)) (x1 : Int32) : wf (β := Int32) L X q_Reader_condition 2 (cs_Reader_condition f_Law_add f_Reader_isKeyword f_Reader_single f_Reader_step) [2, 3] [14, 65, 74, 117] (fun pc ls st => mC (Nat.beq pc 14) (mN st <| gI ls 2 fun a2 => gI ls 3 fun a3 => gD ls 4 <| k_14 x1 a2 a3) (fl)) (fun v => match v with | some (_, .int x) => rt x | _ => fl) 73 0 [(105, .ref 93), (0, .int x1), (0, dV), (0, dV), (0, dV)] [] = (bn (f_Reader_single x1) fun v1 =>
  (if v1 = 0 then
    bn (gdZ (0 : Int32)) fun _ => rt (0 : Int32)
  else
    k_14 x1 (0 : Int32) (0 : Int32))) := rfl
theorem s_Reader_condition_0 {d : Nat} (f_Reader_single : Int32 → M Int32) (hcs : AllS L X d (cs_Reader_condition F_Law_add F_Reader_isKeyword f_Reader_single F_Reader_step)) (x1 : Int32) {o : Option Value × PH} {Q : (Int32) → MI → Prop} (q0 : ∀ v I, Q v I → o = (some (.int v), HH I)) (I : MI) (r : Int32) (I1 : MI) (h : K_Reader_condition_0 f_Reader_single x1 I = some (r, I1)) (hq : Q r I1) : At L X (d + 1) 91 0 [(105, .ref 93), (0, .int x1), (0, dV), (0, dV), (0, dV)] [] I o := by
  refine wf_ok z_Reader_condition hcs ?_ ?_ _ _ _ _ _ ⟨rfl, trivial, trivial, trivial, trivial, trivial⟩ trivial (unm_refl _ _) ((congrFun (e_s_Reader_condition_0 (L := L) (X := X) F_Law_add F_Reader_isKeyword f_Reader_single F_Reader_step (K_Reader_condition_14 f_Reader_single) x1) I).trans h)
  · intro pc ls st I2 h1 h2 h3 h
    rcases mC_ok h with ⟨hb, h⟩ | ⟨_, h⟩
    · have e := Nat.eq_of_beq_eq_true hb
      subst e
      obtain ⟨hst, h⟩ := mN_ok h
      subst hst
      obtain ⟨a2, n2, h⟩ := gI_ok h
      obtain ⟨a3, n3, h⟩ := gI_ok h
      obtain ⟨n4, h⟩ := gD_ok h
      refine at_leaf (ls2 := [(105, .ref 93), (0, .int x1), (0, .int a2), (0, .int a3), (0, dV)]) h3.1 ⟨Or.inr ⟨_, (h3.2 0 rfl).trans rfl⟩, Or.inr ⟨_, (h3.2 1 rfl).trans rfl⟩, Or.inr n2, Or.inr n3, Or.inl ⟨rfl, n4⟩, trivial⟩ ?_
      exact s_Reader_condition_14 f_Reader_single hcs x1 a2 a3 q0 _ _ _ h hq
    cases h
  · intro v I2 _ h
    split at h
    · cases h; exact q0 _ _ hq
    · cases h
theorem w_Reader_condition {d : Nat} (f_Reader_single : Int32 → M Int32) (hcs : AllS L X d (cs_Reader_condition F_Law_add F_Reader_isKeyword f_Reader_single F_Reader_step)) : Snd L X (d + 1) 91 2 (W_Reader_condition (K_Reader_condition_0 f_Reader_single)) := by
  refine ⟨_, z_Reader_condition, rfl, fun β args k I r hty hlen h => ?_⟩
  unfold W_Reader_condition at h
  split at h
  · rename_i t0 a0 u1 a1
    obtain ⟨hb0, h⟩ := mB_ok h
    have e0 := Nat.eq_of_beq_eq_true hb0
    have g0 : okB 105 a0 = true := e0 ▸ hty.1
    have e20 := one_105 g0
    subst e20
    obtain ⟨v, I1, h1, h2⟩ := bn_some h
    refine ⟨gf_obj (c := 5) (by decide) g0, rfl, some (0, .int v), I1, trivial, ?_, h2⟩
    exact s_Reader_condition_0 f_Reader_single hcs a1  (Q := fun w I => w = v ∧ I = I1) (fun w I q => by obtain ⟨rfl, rfl⟩ := q; rfl) I v I1 h1 ⟨rfl, rfl⟩
  · cases h
def cs_Reader_single (f_Law_add : Nat → Int32 → M Unit) (f_Reader_comparison : M Int32) (f_Reader_denied : Int32 → M Int32) (f_Reader_enclosed : Int32 → M Int32) (f_Reader_fail : Int32 → M Int32) (f_Reader_isKeyword : Int32 → M Int32) (f_Reader_isSign : Int32 → M Int32) (f_Reader_step : M Unit) (f_Reader_sum : M Int32) : List (Nat × Nat × CSem) := [(87, 2, W_Law_add f_Law_add), (97, 1, W_Reader_comparison f_Reader_comparison), (93, 2, W_Reader_denied f_Reader_denied), (95, 2, W_Reader_enclosed f_Reader_enclosed), (80, 2, W_Reader_fail f_Reader_fail), (82, 2, W_Reader_isKeyword f_Reader_isKeyword), (89, 2, W_Reader_isSign f_Reader_isSign), (84, 1, W_Reader_step f_Reader_step), (85, 1, W_Reader_sum f_Reader_sum)]
def K_Reader_single_0 (f_Reader_denied : Int32 → M Int32) (f_Reader_enclosed : Int32 → M Int32) (x1 : Int32) : M (Int32) :=
  bn (F_Reader_isKeyword (6 : Int32)) fun v1 =>
  (if v1 = 0 then
    bn (F_Reader_isSign (40 : Int32)) fun v2 =>
    (if v2 = 0 then
      bn (F_Reader_sum) fun v3 =>
      (if v3 = 0 then
        bn (gdZ (0 : Int32)) fun _ => rt (0 : Int32)
      else
        bn (F_Reader_comparison) fun v4 =>
        (if v4 = 0 then
          bn (F_Reader_fail (1 : Int32)) fun v6 =>
          bn (gdZ v6) fun _ => rt v6
        else
          bn (F_Reader_step) fun _ =>
          bn (F_Reader_sum) fun v5 =>
          (if v5 = 0 then
            bn (gdZ (0 : Int32)) fun _ => rt (0 : Int32)
          else
            bn (F_Law_add 95 v4) fun _ =>
            bn (gdZ (1 : Int32)) fun _ => rt (1 : Int32))))
    else
      bn (f_Reader_enclosed x1) fun v7 =>
      bn (gdZ v7) fun _ => rt v7)
  else
    bn (f_Reader_denied x1) fun v8 =>
    bn (gdZ v8) fun _ => rt v8)
set_option maxRecDepth 4000 in
theorem e_s_Reader_single_0 (f_Law_add : Nat → Int32 → M Unit) (f_Reader_comparison : M Int32) (f_Reader_denied : Int32 → M Int32) (f_Reader_enclosed : Int32 → M Int32) (f_Reader_fail : Int32 → M Int32) (f_Reader_isKeyword : Int32 → M Int32) (f_Reader_isSign : Int32 → M Int32) (f_Reader_step : M Unit) (f_Reader_sum : M Int32) (x1 : Int32) : wf (β := Int32) L X q_Reader_single 2 (cs_Reader_single f_Law_add f_Reader_comparison f_Reader_denied f_Reader_enclosed f_Reader_fail f_Reader_isKeyword f_Reader_isSign f_Reader_step f_Reader_sum) [2] [] (fun _ _ _ => fl) (fun v => match v with | some (_, .int x) => rt x | _ => fl) 49 0 [(105, .ref 93), (0, .int x1), (0, dV)] [] = (bn (f_Reader_isKeyword (6 : Int32)) fun v1 =>
  (if v1 = 0 then
    bn (f_Reader_isSign (40 : Int32)) fun v2 =>
    (if v2 = 0 then
      bn (f_Reader_sum) fun v3 =>
      (if v3 = 0 then
        bn (gdZ (0 : Int32)) fun _ => rt (0 : Int32)
      else
        bn (f_Reader_comparison) fun v4 =>
        (if v4 = 0 then
          bn (f_Reader_fail (1 : Int32)) fun v6 =>
          bn (gdZ v6) fun _ => rt v6
        else
          bn (f_Reader_step) fun _ =>
          bn (f_Reader_sum) fun v5 =>
          (if v5 = 0 then
            bn (gdZ (0 : Int32)) fun _ => rt (0 : Int32)
          else
            bn (f_Law_add 95 v4) fun _ =>
            bn (gdZ (1 : Int32)) fun _ => rt (1 : Int32))))
    else
      bn (f_Reader_enclosed x1) fun v7 =>
      bn (gdZ v7) fun _ => rt v7)
  else
    bn (f_Reader_denied x1) fun v8 =>
    bn (gdZ v8) fun _ => rt v8)) := rfl
theorem s_Reader_single_0 {d : Nat} (f_Reader_denied : Int32 → M Int32) (f_Reader_enclosed : Int32 → M Int32) (hcs : AllS L X d (cs_Reader_single F_Law_add F_Reader_comparison f_Reader_denied f_Reader_enclosed F_Reader_fail F_Reader_isKeyword F_Reader_isSign F_Reader_step F_Reader_sum)) (x1 : Int32) {o : Option Value × PH} {Q : (Int32) → MI → Prop} (q0 : ∀ v I, Q v I → o = (some (.int v), HH I)) (I : MI) (r : Int32) (I1 : MI) (h : K_Reader_single_0 f_Reader_denied f_Reader_enclosed x1 I = some (r, I1)) (hq : Q r I1) : At L X (d + 1) 92 0 [(105, .ref 93), (0, .int x1), (0, dV)] [] I o := by
  refine wf_ok z_Reader_single hcs ?_ ?_ _ _ _ _ _ ⟨rfl, trivial, trivial, trivial⟩ trivial (unm_refl _ _) ((congrFun (e_s_Reader_single_0 (L := L) (X := X) F_Law_add F_Reader_comparison f_Reader_denied f_Reader_enclosed F_Reader_fail F_Reader_isKeyword F_Reader_isSign F_Reader_step F_Reader_sum x1) I).trans h)
  · intro pc ls st I2 h1 h2 h3 h
    cases h
  · intro v I2 _ h
    split at h
    · cases h; exact q0 _ _ hq
    · cases h
theorem w_Reader_single {d : Nat} (f_Reader_denied : Int32 → M Int32) (f_Reader_enclosed : Int32 → M Int32) (hcs : AllS L X d (cs_Reader_single F_Law_add F_Reader_comparison f_Reader_denied f_Reader_enclosed F_Reader_fail F_Reader_isKeyword F_Reader_isSign F_Reader_step F_Reader_sum)) : Snd L X (d + 1) 92 2 (W_Reader_single (K_Reader_single_0 f_Reader_denied f_Reader_enclosed)) := by
  refine ⟨_, z_Reader_single, rfl, fun β args k I r hty hlen h => ?_⟩
  unfold W_Reader_single at h
  split at h
  · rename_i t0 a0 u1 a1
    obtain ⟨hb0, h⟩ := mB_ok h
    have e0 := Nat.eq_of_beq_eq_true hb0
    have g0 : okB 105 a0 = true := e0 ▸ hty.1
    have e20 := one_105 g0
    subst e20
    obtain ⟨v, I1, h1, h2⟩ := bn_some h
    refine ⟨gf_obj (c := 5) (by decide) g0, rfl, some (0, .int v), I1, trivial, ?_, h2⟩
    exact s_Reader_single_0 f_Reader_denied f_Reader_enclosed hcs a1  (Q := fun w I => w = v ∧ I = I1) (fun w I q => by obtain ⟨rfl, rfl⟩ := q; rfl) I v I1 h1 ⟨rfl, rfl⟩
  · cases h
def cs_Reader_denied (f_Law_add : Nat → Int32 → M Unit) (f_Reader_opens : Int32 → M Int32) (f_Reader_single : Int32 → M Int32) : List (Nat × Nat × CSem) := [(87, 2, W_Law_add f_Law_add), (94, 2, W_Reader_opens f_Reader_opens), (92, 2, W_Reader_single f_Reader_single)]
def K_Reader_denied_0 (f_Reader_single : Int32 → M Int32) (x1 : Int32) : M (Int32) :=
  bn (F_Reader_opens x1) fun v1 =>
  (if v1 = 0 then
    bn (gdZ (0 : Int32)) fun _ => rt (0 : Int32)
  else
    bn (f_Reader_single (x1 + (1 : Int32))) fun v2 =>
    (if v2 = 0 then
      bn (gdZ (0 : Int32)) fun _ => rt (0 : Int32)
    else
      bn (F_Law_add 95 (-8 : Int32)) fun _ =>
      bn (gdZ (1 : Int32)) fun _ => rt (1 : Int32)))
set_option maxRecDepth 4000 in
theorem e_s_Reader_denied_0 (f_Law_add : Nat → Int32 → M Unit) (f_Reader_opens : Int32 → M Int32) (f_Reader_single : Int32 → M Int32) (x1 : Int32) : wf (β := Int32) L X q_Reader_denied 2 (cs_Reader_denied f_Law_add f_Reader_opens f_Reader_single) [] [] (fun _ _ _ => fl) (fun v => match v with | some (_, .int x) => rt x | _ => fl) 24 0 [(105, .ref 93), (0, .int x1)] [] = (bn (f_Reader_opens x1) fun v1 =>
  (if v1 = 0 then
    bn (gdZ (0 : Int32)) fun _ => rt (0 : Int32)
  else
    bn (f_Reader_single (x1 + (1 : Int32))) fun v2 =>
    (if v2 = 0 then
      bn (gdZ (0 : Int32)) fun _ => rt (0 : Int32)
    else
      bn (f_Law_add 95 (-8 : Int32)) fun _ =>
      bn (gdZ (1 : Int32)) fun _ => rt (1 : Int32)))) := rfl
theorem s_Reader_denied_0 {d : Nat} (f_Reader_single : Int32 → M Int32) (hcs : AllS L X d (cs_Reader_denied F_Law_add F_Reader_opens f_Reader_single)) (x1 : Int32) {o : Option Value × PH} {Q : (Int32) → MI → Prop} (q0 : ∀ v I, Q v I → o = (some (.int v), HH I)) (I : MI) (r : Int32) (I1 : MI) (h : K_Reader_denied_0 f_Reader_single x1 I = some (r, I1)) (hq : Q r I1) : At L X (d + 1) 93 0 [(105, .ref 93), (0, .int x1)] [] I o := by
  refine wf_ok z_Reader_denied hcs ?_ ?_ _ _ _ _ _ ⟨rfl, trivial, trivial⟩ trivial (unm_refl _ _) ((congrFun (e_s_Reader_denied_0 (L := L) (X := X) F_Law_add F_Reader_opens f_Reader_single x1) I).trans h)
  · intro pc ls st I2 h1 h2 h3 h
    cases h
  · intro v I2 _ h
    split at h
    · cases h; exact q0 _ _ hq
    · cases h
theorem w_Reader_denied {d : Nat} (f_Reader_single : Int32 → M Int32) (hcs : AllS L X d (cs_Reader_denied F_Law_add F_Reader_opens f_Reader_single)) : Snd L X (d + 1) 93 2 (W_Reader_denied (K_Reader_denied_0 f_Reader_single)) := by
  refine ⟨_, z_Reader_denied, rfl, fun β args k I r hty hlen h => ?_⟩
  unfold W_Reader_denied at h
  split at h
  · rename_i t0 a0 u1 a1
    obtain ⟨hb0, h⟩ := mB_ok h
    have e0 := Nat.eq_of_beq_eq_true hb0
    have g0 : okB 105 a0 = true := e0 ▸ hty.1
    have e20 := one_105 g0
    subst e20
    obtain ⟨v, I1, h1, h2⟩ := bn_some h
    refine ⟨gf_obj (c := 5) (by decide) g0, rfl, some (0, .int v), I1, trivial, ?_, h2⟩
    exact s_Reader_denied_0 f_Reader_single hcs a1  (Q := fun w I => w = v ∧ I = I1) (fun w I q => by obtain ⟨rfl, rfl⟩ := q; rfl) I v I1 h1 ⟨rfl, rfl⟩
  · cases h
def cs_Reader_enclosed (f_Reader_condition : Int32 → M Int32) (f_Reader_opens : Int32 → M Int32) (f_Reader_stepSign : Int32 → M Int32) : List (Nat × Nat × CSem) := [(91, 2, W_Reader_condition f_Reader_condition), (94, 2, W_Reader_opens f_Reader_opens), (96, 2, W_Reader_stepSign f_Reader_stepSign)]
def K_Reader_enclosed_0 (f_Reader_condition : Int32 → M Int32) (x1 : Int32) : M (Int32) :=
  bn (F_Reader_opens x1) fun v1 =>
  (if v1 = 0 then
    bn (gdZ (0 : Int32)) fun _ => rt (0 : Int32)
  else
    bn (f_Reader_condition (x1 + (1 : Int32))) fun v2 =>
    (if v2 = 0 then
      bn (gdZ (0 : Int32)) fun _ => rt (0 : Int32)
    else
      bn (F_Reader_stepSign (41 : Int32)) fun v3 =>
      (if v3 = 0 then
        bn (gdZ (0 : Int32)) fun _ => rt (0 : Int32)
      else
        bn (gdZ (1 : Int32)) fun _ => rt (1 : Int32))))
set_option maxRecDepth 4000 in
theorem e_s_Reader_enclosed_0 (f_Reader_condition : Int32 → M Int32) (f_Reader_opens : Int32 → M Int32) (f_Reader_stepSign : Int32 → M Int32) (x1 : Int32) : wf (β := Int32) L X q_Reader_enclosed 2 (cs_Reader_enclosed f_Reader_condition f_Reader_opens f_Reader_stepSign) [] [] (fun _ _ _ => fl) (fun v => match v with | some (_, .int x) => rt x | _ => fl) 23 0 [(105, .ref 93), (0, .int x1)] [] = (bn (f_Reader_opens x1) fun v1 =>
  (if v1 = 0 then
    bn (gdZ (0 : Int32)) fun _ => rt (0 : Int32)
  else
    bn (f_Reader_condition (x1 + (1 : Int32))) fun v2 =>
    (if v2 = 0 then
      bn (gdZ (0 : Int32)) fun _ => rt (0 : Int32)
    else
      bn (f_Reader_stepSign (41 : Int32)) fun v3 =>
      (if v3 = 0 then
        bn (gdZ (0 : Int32)) fun _ => rt (0 : Int32)
      else
        bn (gdZ (1 : Int32)) fun _ => rt (1 : Int32))))) := rfl
theorem s_Reader_enclosed_0 {d : Nat} (f_Reader_condition : Int32 → M Int32) (hcs : AllS L X d (cs_Reader_enclosed f_Reader_condition F_Reader_opens F_Reader_stepSign)) (x1 : Int32) {o : Option Value × PH} {Q : (Int32) → MI → Prop} (q0 : ∀ v I, Q v I → o = (some (.int v), HH I)) (I : MI) (r : Int32) (I1 : MI) (h : K_Reader_enclosed_0 f_Reader_condition x1 I = some (r, I1)) (hq : Q r I1) : At L X (d + 1) 95 0 [(105, .ref 93), (0, .int x1)] [] I o := by
  refine wf_ok z_Reader_enclosed hcs ?_ ?_ _ _ _ _ _ ⟨rfl, trivial, trivial⟩ trivial (unm_refl _ _) ((congrFun (e_s_Reader_enclosed_0 (L := L) (X := X) f_Reader_condition F_Reader_opens F_Reader_stepSign x1) I).trans h)
  · intro pc ls st I2 h1 h2 h3 h
    cases h
  · intro v I2 _ h
    split at h
    · cases h; exact q0 _ _ hq
    · cases h
theorem w_Reader_enclosed {d : Nat} (f_Reader_condition : Int32 → M Int32) (hcs : AllS L X d (cs_Reader_enclosed f_Reader_condition F_Reader_opens F_Reader_stepSign)) : Snd L X (d + 1) 95 2 (W_Reader_enclosed (K_Reader_enclosed_0 f_Reader_condition)) := by
  refine ⟨_, z_Reader_enclosed, rfl, fun β args k I r hty hlen h => ?_⟩
  unfold W_Reader_enclosed at h
  split at h
  · rename_i t0 a0 u1 a1
    obtain ⟨hb0, h⟩ := mB_ok h
    have e0 := Nat.eq_of_beq_eq_true hb0
    have g0 : okB 105 a0 = true := e0 ▸ hty.1
    have e20 := one_105 g0
    subst e20
    obtain ⟨v, I1, h1, h2⟩ := bn_some h
    refine ⟨gf_obj (c := 5) (by decide) g0, rfl, some (0, .int v), I1, trivial, ?_, h2⟩
    exact s_Reader_enclosed_0 f_Reader_condition hcs a1  (Q := fun w I => w = v ∧ I = I1) (fun w I q => by obtain ⟨rfl, rfl⟩ := q; rfl) I v I1 h1 ⟨rfl, rfl⟩
  · cases h
def G_Reader_cs : Nat → (Int32 → M Int32) × (Int32 → M Int32)
  | 0 => (fun _ => fl, fun _ => fl)
  | n + 1 => (K_Reader_condition_0 (G_Reader_cs n).2, K_Reader_single_0 (K_Reader_denied_0 (G_Reader_cs n).2) (K_Reader_enclosed_0 (G_Reader_cs n).1))
def F_Reader_condition : Int32 → M Int32 := (G_Reader_cs 60).1
def F_Reader_single : Int32 → M Int32 := (G_Reader_cs 60).2
theorem SG_Reader_cs : ∀ (n d : Nat), 2 * n + 4 ≤ d → Snd L X d 91 2 (W_Reader_condition (G_Reader_cs n).1) ∧ Snd L X d 92 2 (W_Reader_single (G_Reader_cs n).2) := by
  intro n
  induction n with
  | zero =>
    intro d _
    constructor
    · skip
      refine ⟨_, z_Reader_condition, rfl, fun β args k I r hty hlen h => ?_⟩
      unfold W_Reader_condition at h
      split at h
      · obtain ⟨_, h⟩ := mB_ok h
        obtain ⟨v, I1, h1, _⟩ := bn_some h
        cases h1
      · cases h
    · skip
      refine ⟨_, z_Reader_single, rfl, fun β args k I r hty hlen h => ?_⟩
      unfold W_Reader_single at h
      split at h
      · obtain ⟨_, h⟩ := mB_ok h
        obtain ⟨v, I1, h1, _⟩ := bn_some h
        cases h1
      · cases h
  | succ n ih =>
    intro d hd
    obtain ⟨e, rfl⟩ : ∃ e, d = e + 2 := ⟨d - 2, by omega⟩
    exact ⟨w_Reader_condition (G_Reader_cs n).2 ⟨S_Law_add (by omega), S_Reader_isKeyword (by omega), (ih (e + 1) (by omega)).2, S_Reader_step (by omega), trivial⟩, w_Reader_single (K_Reader_denied_0 (G_Reader_cs n).2) (K_Reader_enclosed_0 (G_Reader_cs n).1) ⟨S_Law_add (by omega), S_Reader_comparison (by omega), w_Reader_denied (G_Reader_cs n).2 ⟨S_Law_add (by omega), S_Reader_opens (by omega), (ih e (by omega)).2, trivial⟩, w_Reader_enclosed (G_Reader_cs n).1 ⟨(ih e (by omega)).1, S_Reader_opens (by omega), S_Reader_stepSign (by omega), trivial⟩, S_Reader_fail (by omega), S_Reader_isKeyword (by omega), S_Reader_isSign (by omega), S_Reader_step (by omega), S_Reader_sum (by omega), trivial⟩⟩
theorem S_Reader_condition {d : Nat} (hd : 124 ≤ d) : Snd L X d 91 2 (W_Reader_condition F_Reader_condition) := (SG_Reader_cs 60 d (by omega)).1
theorem S_Reader_single {d : Nat} (hd : 124 ≤ d) : Snd L X d 92 2 (W_Reader_single F_Reader_single) := (SG_Reader_cs 60 d (by omega)).2
end
