/-! methods (written by wip/tools/gen_f.py) -/
section
variable {L : Nat} {X : Nat → Int32}
set_option maxRecDepth 100000 in
theorem z_R_canBeOne : pT[292]? = some (q_R_canBeOne, 2, 3, 2, 12) := rfl
def W_R_canBeOne (F : Int32 → M Int32) : CSem := fun _ args k => match args with
  | [(t0, .ref a0), (_, .int a1)] => mB (Nat.beq t0 112) <| bn (F a1) fun v => k (some (0, .int v))
  | _ => fl
def cs_R_canBeOne (f_R_groupOf : Int32 → M Int32) (f_R_has : Int32 → Int32 → M Int32) : List (Nat × Nat × CSem) := [(290, 2, W_R_groupOf f_R_groupOf), (286, 3, W_R_has f_R_has)]
def B_R_canBeOne_2 (x1 : Int32) (y : Int32) : M ((Int32) ⊕ (Int32)) :=
  (if y < (10 : Int32) then
    bn (F_R_has x1 y) fun v1 =>
    (if v1 = 0 then
      rt (.inl (y + (1 : Int32)))
    else
      bn (F_R_groupOf y) fun v2 =>
      (if (v2 &&& (x1 ^^^ (-1 : Int32))) = 0 then
        bn (ld 10 236 y) fun v3 =>
        (if (v3 &&& x1) = 0 then
          rt (.inl (y + (1 : Int32)))
        else
          bn (gdZ (0 : Int32)) fun _ => rt (.inr (0 : Int32)))
      else
        bn (gdZ (0 : Int32)) fun _ => rt (.inr (0 : Int32))))
  else
    bn (gdZ (1 : Int32)) fun _ => rt (.inr (1 : Int32)))
set_option maxRecDepth 4000 in
theorem e_b_R_canBeOne_2 (f_R_groupOf : Int32 → M Int32) (f_R_has : Int32 → Int32 → M Int32) (x1 : Int32) (y : Int32) : wf (β := (Int32) ⊕ (Int32)) L X q_R_canBeOne 2 (cs_R_canBeOne f_R_groupOf f_R_has) [2] [2] (fun pc ls st => mC (Nat.beq pc 2) (mN st <| gI ls 2 fun a2 => rt (.inl a2)) (fl)) (fun v => match v with | some (_, .int x) => rt (.inr x) | _ => fl) 36 2 [(112, .ref 207), (0, .int x1), (0, .int y)] [] = ((if y < (10 : Int32) then
    bn (f_R_has x1 y) fun v1 =>
    (if v1 = 0 then
      rt (.inl (y + (1 : Int32)))
    else
      bn (f_R_groupOf y) fun v2 =>
      (if (v2 &&& (x1 ^^^ (-1 : Int32))) = 0 then
        bn (ld 10 236 y) fun v3 =>
        (if (v3 &&& x1) = 0 then
          rt (.inl (y + (1 : Int32)))
        else
          bn (gdZ (0 : Int32)) fun _ => rt (.inr (0 : Int32)))
      else
        bn (gdZ (0 : Int32)) fun _ => rt (.inr (0 : Int32))))
  else
    bn (gdZ (1 : Int32)) fun _ => rt (.inr (1 : Int32)))) := rfl
theorem b_R_canBeOne_2 {d : Nat} (hcs : AllS L X d (cs_R_canBeOne F_R_groupOf F_R_has)) (x1 : Int32) {o : Option Value × PH} {Q : ((Int32) ⊕ (Int32)) → MI → Prop} (qb : ∀ y I, Q (.inl y) I → At L X (d + 1) 292 2 [(112, .ref 207), (0, .int x1), (0, .int y)] [] I o) (qr : ∀ v I, Q (.inr v) I → o = (some (.int v), HH I)) (y : Int32) (I : MI) (r : (Int32) ⊕ (Int32)) (I1 : MI) (h : B_R_canBeOne_2 x1 y I = some (r, I1)) (hq : Q r I1) : At L X (d + 1) 292 2 [(112, .ref 207), (0, .int x1), (0, .int y)] [] I o := by
  refine wf_ok z_R_canBeOne hcs ?_ ?_ _ _ _ _ _ ⟨rfl, trivial, trivial, trivial⟩ trivial (unm_refl _ _) ((congrFun (e_b_R_canBeOne_2 (L := L) (X := X) F_R_groupOf F_R_has x1 y) I).trans h)
  · intro pc ls st I2 h1 h2 h3 h
    rcases mC_ok h with ⟨hb, h⟩ | ⟨_, h⟩
    · have e := Nat.eq_of_beq_eq_true hb
      subst e
      obtain ⟨hst, h⟩ := mN_ok h
      subst hst
      obtain ⟨a2, n2, h⟩ := gI_ok h
      refine at_leaf (ls2 := [(112, .ref 207), (0, .int x1), (0, .int a2)]) h3.1 ⟨Or.inr ⟨_, (h3.2 0 rfl).trans rfl⟩, Or.inr ⟨_, (h3.2 1 rfl).trans rfl⟩, Or.inr n2, trivial⟩ ?_
      cases h; exact qb _ _ hq
    cases h
  · intro v I2 _ h
    split at h
    · cases h; exact qr _ _ hq
    · cases h
def K_R_canBeOne_2 (x1 : Int32) (x2 : Int32) : M (Int32) :=
  lp (B_R_canBeOne_2 x1) FU x2
theorem s_R_canBeOne_2 {d : Nat} (hcs : AllS L X d (cs_R_canBeOne F_R_groupOf F_R_has)) (x1 : Int32) (x2 : Int32) {o : Option Value × PH} {Q : (Int32) → MI → Prop} (q0 : ∀ v I, Q v I → o = (some (.int v), HH I)) (I : MI) (r : Int32) (I1 : MI) (h : K_R_canBeOne_2 x1 x2 I = some (r, I1)) (hq : Q r I1) : At L X (d + 1) 292 2 [(112, .ref 207), (0, .int x1), (0, .int x2)] [] I o := by
  unfold K_R_canBeOne_2 at h
  have w0 := fun w => at_lp (body := B_R_canBeOne_2 x1) (P := (fun (y : Int32) I => At L X (d + 1) 292 2 [(112, .ref 207), (0, .int x1), (0, .int y)] [] I o)) (Q := (fun (e : Int32) I => Q e I)) w FU x2 I r I1 h hq
  refine w0 ?_
  intro y I r I1 h hq
  exact b_R_canBeOne_2 hcs x1 (Q := SQ (fun (y : Int32) I => At L X (d + 1) 292 2 [(112, .ref 207), (0, .int x1), (0, .int y)] [] I o) (fun (e : Int32) I => Q e I)) (fun _ _ w => w) q0 y I r I1 h hq
def F_R_canBeOne (x1 : Int32) : M (Int32) :=
  K_R_canBeOne_2 x1 (0 : Int32)
set_option maxRecDepth 4000 in
theorem e_s_R_canBeOne_0 (f_R_groupOf : Int32 → M Int32) (f_R_has : Int32 → Int32 → M Int32) (k_2 : Int32 → Int32 → M (Int32)) (x1 : Int32) : wf (β := Int32) L X q_R_canBeOne 2 (cs_R_canBeOne f_R_groupOf f_R_has) [2] [2] (fun pc ls st => mC (Nat.beq pc 2) (mN st <| gI ls 2 fun a2 => k_2 x1 a2) (fl)) (fun v => match v with | some (_, .int x) => rt x | _ => fl) 36 0 [(112, .ref 207), (0, .int x1), (0, dV)] [] = (k_2 x1 (0 : Int32)) := rfl
theorem s_R_canBeOne_0 {d : Nat} (hcs : AllS L X d (cs_R_canBeOne F_R_groupOf F_R_has)) (x1 : Int32) {o : Option Value × PH} {Q : (Int32) → MI → Prop} (q0 : ∀ v I, Q v I → o = (some (.int v), HH I)) (I : MI) (r : Int32) (I1 : MI) (h : F_R_canBeOne x1 I = some (r, I1)) (hq : Q r I1) : At L X (d + 1) 292 0 [(112, .ref 207), (0, .int x1), (0, dV)] [] I o := by
  refine wf_ok z_R_canBeOne hcs ?_ ?_ _ _ _ _ _ ⟨rfl, trivial, trivial, trivial⟩ trivial (unm_refl _ _) ((congrFun (e_s_R_canBeOne_0 (L := L) (X := X) F_R_groupOf F_R_has K_R_canBeOne_2 x1) I).trans h)
  · intro pc ls st I2 h1 h2 h3 h
    rcases mC_ok h with ⟨hb, h⟩ | ⟨_, h⟩
    · have e := Nat.eq_of_beq_eq_true hb
      subst e
      obtain ⟨hst, h⟩ := mN_ok h
      subst hst
      obtain ⟨a2, n2, h⟩ := gI_ok h
      refine at_leaf (ls2 := [(112, .ref 207), (0, .int x1), (0, .int a2)]) h3.1 ⟨Or.inr ⟨_, (h3.2 0 rfl).trans rfl⟩, Or.inr ⟨_, (h3.2 1 rfl).trans rfl⟩, Or.inr n2, trivial⟩ ?_
      exact s_R_canBeOne_2 hcs x1 a2 q0 _ _ _ h hq
    cases h
  · intro v I2 _ h
    split at h
    · cases h; exact q0 _ _ hq
    · cases h
theorem w_R_canBeOne {d : Nat} (hcs : AllS L X d (cs_R_canBeOne F_R_groupOf F_R_has)) : Snd L X (d + 1) 292 2 (W_R_canBeOne F_R_canBeOne) := by
  refine ⟨_, z_R_canBeOne, rfl, fun β args k I r hty hlen h => ?_⟩
  unfold W_R_canBeOne at h
  split at h
  · rename_i t0 a0 u1 a1
    obtain ⟨hb0, h⟩ := mB_ok h
    have e0 := Nat.eq_of_beq_eq_true hb0
    have g0 : okB 112 a0 = true := e0 ▸ hty.1
    have e20 := one_112 g0
    subst e20
    obtain ⟨v, I1, h1, h2⟩ := bn_some h
    refine ⟨gf_obj (c := 12) (by decide) g0, rfl, some (0, .int v), I1, trivial, ?_, h2⟩
    exact s_R_canBeOne_0 hcs a1  (Q := fun w I => w = v ∧ I = I1) (fun w I q => by obtain ⟨rfl, rfl⟩ := q; rfl) I v I1 h1 ⟨rfl, rfl⟩
  · cases h
theorem S_R_canBeOne {d : Nat} (hd : 3 ≤ d) : Snd L X d 292 2 (W_R_canBeOne F_R_canBeOne) := by
  obtain ⟨e, rfl⟩ : ∃ e, d = e + 1 := ⟨d - 1, by omega⟩
  exact w_R_canBeOne ⟨S_R_groupOf (by omega), S_R_has (by omega), trivial⟩
set_option maxRecDepth 100000 in
theorem z_R_fewestNamed : pT[291]? = some (q_R_fewestNamed, 1, 4, 1, 12) := rfl
def W_R_fewestNamed (F : M Int32) : CSem := fun _ args k => match args with
  | [(t0, .ref a0)] => mB (Nat.beq t0 112) <| bn (F) fun v => k (some (0, .int v))
  | _ => fl
def cs_R_fewestNamed (f_R_canBeOne : Int32 → M Int32) (f_R_lesser : Int32 → Int32 → M Int32) : List (Nat × Nat × CSem) := [(292, 2, W_R_canBeOne f_R_canBeOne), (248, 3, W_R_lesser f_R_lesser)]
def B_R_fewestNamed_2 (y : Int32) : M ((Int32) ⊕ ((Unit))) :=
  (if y < (1024 : Int32) then
    (if y = 0 then
      bn (sr 1024 237 y (0 : Int32)) fun _ =>
      rt (.inl (y + (1 : Int32)))
    else
      bn (sr 1024 237 y (100000000 : Int32)) fun _ =>
      rt (.inl (y + (1 : Int32))))
  else
    rt (.inr ()))
set_option maxRecDepth 4000 in
theorem e_b_R_fewestNamed_2 (f_R_canBeOne : Int32 → M Int32) (f_R_lesser : Int32 → Int32 → M Int32) (y : Int32) : wf (β := (Int32) ⊕ ((Unit))) L X q_R_fewestNamed 1 (cs_R_fewestNamed f_R_canBeOne f_R_lesser) [1] [2, 32, 34, 62, 111] (fun pc ls st => mC (Nat.beq pc 2) (mN st <| gI ls 1 fun a1 => gD ls 2 <| gD ls 3 <| rt (.inl a1)) (mC (Nat.beq pc 32) (mN st <| gD ls 1 <| gD ls 2 <| gD ls 3 <| rt (.inr ())) (fl))) (fun _ => fl) 79 2 [(112, .ref 207), (0, .int y), (0, dV), (0, dV)] [] = ((if y < (1024 : Int32) then
    (if y = 0 then
      bn (sr 1024 237 y (0 : Int32)) fun _ =>
      rt (.inl (y + (1 : Int32)))
    else
      bn (sr 1024 237 y (100000000 : Int32)) fun _ =>
      rt (.inl (y + (1 : Int32))))
  else
    rt (.inr ()))) := rfl
theorem b_R_fewestNamed_2 {d : Nat} (hcs : AllS L X d (cs_R_fewestNamed F_R_canBeOne F_R_lesser)) {o : Option Value × PH} {Q : ((Int32) ⊕ ((Unit))) → MI → Prop} (qb : ∀ y I, Q (.inl y) I → At L X (d + 1) 291 2 [(112, .ref 207), (0, .int y), (0, dV), (0, dV)] [] I o) (qe32 : ∀ y I, Q (.inr y) I → At L X (d + 1) 291 32 [(112, .ref 207), (0, dV), (0, dV), (0, dV)] [] I o) (y : Int32) (I : MI) (r : (Int32) ⊕ ((Unit))) (I1 : MI) (h : B_R_fewestNamed_2 y I = some (r, I1)) (hq : Q r I1) : At L X (d + 1) 291 2 [(112, .ref 207), (0, .int y), (0, dV), (0, dV)] [] I o := by
  refine wf_ok z_R_fewestNamed hcs ?_ ?_ _ _ _ _ _ ⟨rfl, trivial, trivial, trivial, trivial⟩ trivial (unm_refl _ _) ((congrFun (e_b_R_fewestNamed_2 (L := L) (X := X) F_R_canBeOne F_R_lesser y) I).trans h)
  · intro pc ls st I2 h1 h2 h3 h
    rcases mC_ok h with ⟨hb, h⟩ | ⟨_, h⟩
    · have e := Nat.eq_of_beq_eq_true hb
      subst e
      obtain ⟨hst, h⟩ := mN_ok h
      subst hst
      obtain ⟨a1, n1, h⟩ := gI_ok h
      obtain ⟨n2, h⟩ := gD_ok h
      obtain ⟨n3, h⟩ := gD_ok h
      refine at_leaf (ls2 := [(112, .ref 207), (0, .int a1), (0, dV), (0, dV)]) h3.1 ⟨Or.inr ⟨_, (h3.2 0 rfl).trans rfl⟩, Or.inr n1, Or.inl ⟨rfl, n2⟩, Or.inl ⟨rfl, n3⟩, trivial⟩ ?_
      cases h; exact qb _ _ hq
    rcases mC_ok h with ⟨hb, h⟩ | ⟨_, h⟩
    · have e := Nat.eq_of_beq_eq_true hb
      subst e
      obtain ⟨hst, h⟩ := mN_ok h
      subst hst
      obtain ⟨n1, h⟩ := gD_ok h
      obtain ⟨n2, h⟩ := gD_ok h
      obtain ⟨n3, h⟩ := gD_ok h
      refine at_leaf (ls2 := [(112, .ref 207), (0, dV), (0, dV), (0, dV)]) h3.1 ⟨Or.inr ⟨_, (h3.2 0 rfl).trans rfl⟩, Or.inl ⟨rfl, n1⟩, Or.inl ⟨rfl, n2⟩, Or.inl ⟨rfl, n3⟩, trivial⟩ ?_
      cases h; exact qe32 _ _ hq
    cases h
  · intro v I2 _ h
    cases h
def B_R_fewestNamed_62 (x1 : Int32) (x2 : Int32) (y : Int32) : M ((Int32) ⊕ ((Unit))) :=
  (if y < 0 then
    rt (.inr ())
  else
    bn (ld 1024 237 (y ||| x1)) fun v1 =>
    bn (ld 1024 237 y) fun v2 =>
    bn (F_R_lesser v1 (v2 + (1 : Int32))) fun v3 =>
    bn (sr 1024 237 (y ||| x1) v3) fun _ =>
    (if y = 0 then
      rt (.inl (-1 : Int32))
    else
      rt (.inl ((y - (1 : Int32)) &&& x2))))
set_option maxRecDepth 4000 in
theorem e_b_R_fewestNamed_62 (f_R_canBeOne : Int32 → M Int32) (f_R_lesser : Int32 → Int32 → M Int32) (x1 : Int32) (x2 : Int32) (y : Int32) : wf (β := (Int32) ⊕ ((Unit))) L X q_R_fewestNamed 1 (cs_R_fewestNamed f_R_canBeOne f_R_lesser) [3] [2, 32, 34, 62, 111] (fun pc ls st => mC (Nat.beq pc 62) (mN st <| gI ls 3 fun a3 => rt (.inl a3)) (mC (Nat.beq pc 111) (mN st <| gD ls 2 <| gD ls 3 <| rt (.inr ())) (fl))) (fun _ => fl) 79 62 [(112, .ref 207), (0, .int x1), (0, .int x2), (0, .int y)] [] = ((if y < 0 then
    rt (.inr ())
  else
    bn (ld 1024 237 (y ||| x1)) fun v1 =>
    bn (ld 1024 237 y) fun v2 =>
    bn (f_R_lesser v1 (v2 + (1 : Int32))) fun v3 =>
    bn (sr 1024 237 (y ||| x1) v3) fun _ =>
    (if y = 0 then
      rt (.inl (-1 : Int32))
    else
      rt (.inl ((y - (1 : Int32)) &&& x2))))) := rfl
theorem b_R_fewestNamed_62 {d : Nat} (hcs : AllS L X d (cs_R_fewestNamed F_R_canBeOne F_R_lesser)) (x1 : Int32) (x2 : Int32) {o : Option Value × PH} {Q : ((Int32) ⊕ ((Unit))) → MI → Prop} (qb : ∀ y I, Q (.inl y) I → At L X (d + 1) 291 62 [(112, .ref 207), (0, .int x1), (0, .int x2), (0, .int y)] [] I o) (qe111 : ∀ y I, Q (.inr y) I → At L X (d + 1) 291 111 [(112, .ref 207), (0, .int x1), (0, dV), (0, dV)] [] I o) (y : Int32) (I : MI) (r : (Int32) ⊕ ((Unit))) (I1 : MI) (h : B_R_fewestNamed_62 x1 x2 y I = some (r, I1)) (hq : Q r I1) : At L X (d + 1) 291 62 [(112, .ref 207), (0, .int x1), (0, .int x2), (0, .int y)] [] I o := by
  refine wf_ok z_R_fewestNamed hcs ?_ ?_ _ _ _ _ _ ⟨rfl, trivial, trivial, trivial, trivial⟩ trivial (unm_refl _ _) ((congrFun (e_b_R_fewestNamed_62 (L := L) (X := X) F_R_canBeOne F_R_lesser x1 x2 y) I).trans h)
  · intro pc ls st I2 h1 h2 h3 h
    rcases mC_ok h with ⟨hb, h⟩ | ⟨_, h⟩
    · have e := Nat.eq_of_beq_eq_true hb
      subst e
      obtain ⟨hst, h⟩ := mN_ok h
      subst hst
      obtain ⟨a3, n3, h⟩ := gI_ok h
      refine at_leaf (ls2 := [(112, .ref 207), (0, .int x1), (0, .int x2), (0, .int a3)]) h3.1 ⟨Or.inr ⟨_, (h3.2 0 rfl).trans rfl⟩, Or.inr ⟨_, (h3.2 1 rfl).trans rfl⟩, Or.inr ⟨_, (h3.2 2 rfl).trans rfl⟩, Or.inr n3, trivial⟩ ?_
      cases h; exact qb _ _ hq
    rcases mC_ok h with ⟨hb, h⟩ | ⟨_, h⟩
    · have e := Nat.eq_of_beq_eq_true hb
      subst e
      obtain ⟨hst, h⟩ := mN_ok h
      subst hst
      obtain ⟨n2, h⟩ := gD_ok h
      obtain ⟨n3, h⟩ := gD_ok h
      refine at_leaf (ls2 := [(112, .ref 207), (0, .int x1), (0, dV), (0, dV)]) h3.1 ⟨Or.inr ⟨_, (h3.2 0 rfl).trans rfl⟩, Or.inr ⟨_, (h3.2 1 rfl).trans rfl⟩, Or.inl ⟨rfl, n2⟩, Or.inl ⟨rfl, n3⟩, trivial⟩ ?_
      cases h; exact qe111 _ _ hq
    cases h
  · intro v I2 _ h
    cases h
def K_R_fewestNamed_111 (x1 : Int32) : M ((Int32) ⊕ (Int32)) :=
  rt (.inl (x1 + (1 : Int32)))
set_option maxRecDepth 4000 in
theorem e_s_R_fewestNamed_111 (f_R_canBeOne : Int32 → M Int32) (f_R_lesser : Int32 → Int32 → M Int32) (x1 : Int32) : wf (β := (Int32) ⊕ (Int32)) L X q_R_fewestNamed 1 (cs_R_fewestNamed f_R_canBeOne f_R_lesser) [1] [2, 32, 34, 62, 111] (fun pc ls st => mC (Nat.beq pc 34) (mN st <| gI ls 1 fun a1 => gD ls 2 <| gD ls 3 <| rt (.inl a1)) (fl)) (fun v => match v with | some (_, .int x) => rt (.inr x) | _ => fl) 79 111 [(112, .ref 207), (0, .int x1), (0, dV), (0, dV)] [] = (rt (.inl (x1 + (1 : Int32)))) := rfl
theorem s_R_fewestNamed_111 {d : Nat} (hcs : AllS L X d (cs_R_fewestNamed F_R_canBeOne F_R_lesser)) (x1 : Int32) {o : Option Value × PH} {Q : ((Int32) ⊕ (Int32)) → MI → Prop} (qb : ∀ y I, Q (.inl y) I → At L X (d + 1) 291 34 [(112, .ref 207), (0, .int y), (0, dV), (0, dV)] [] I o) (qr : ∀ v I, Q (.inr v) I → o = (some (.int v), HH I)) (I : MI) (r : (Int32) ⊕ (Int32)) (I1 : MI) (h : K_R_fewestNamed_111 x1 I = some (r, I1)) (hq : Q r I1) : At L X (d + 1) 291 111 [(112, .ref 207), (0, .int x1), (0, dV), (0, dV)] [] I o := by
  refine wf_ok z_R_fewestNamed hcs ?_ ?_ _ _ _ _ _ ⟨rfl, trivial, trivial, trivial, trivial⟩ trivial (unm_refl _ _) ((congrFun (e_s_R_fewestNamed_111 (L := L) (X := X) F_R_canBeOne F_R_lesser x1) I).trans h)
  · intro pc ls st I2 h1 h2 h3 h
    rcases mC_ok h with ⟨hb, h⟩ | ⟨_, h⟩
    · have e := Nat.eq_of_beq_eq_true hb
      subst e
      obtain ⟨hst, h⟩ := mN_ok h
      subst hst
      obtain ⟨a1, n1, h⟩ := gI_ok h
      obtain ⟨n2, h⟩ := gD_ok h
      obtain ⟨n3, h⟩ := gD_ok h
      refine at_leaf (ls2 := [(112, .ref 207), (0, .int a1), (0, dV), (0, dV)]) h3.1 ⟨Or.inr ⟨_, (h3.2 0 rfl).trans rfl⟩, Or.inr n1, Or.inl ⟨rfl, n2⟩, Or.inl ⟨rfl, n3⟩, trivial⟩ ?_
      cases h; exact qb _ _ hq
    cases h
  · intro v I2 _ h
    split at h
    · cases h; exact qr _ _ hq
    · cases h
def K_R_fewestNamed_62 (x1 : Int32) (x2 : Int32) (x3 : Int32) : M ((Int32) ⊕ (Int32)) :=
  bn (lp (B_R_fewestNamed_62 x1 x2) FU x3) fun e => K_R_fewestNamed_111 x1
theorem s_R_fewestNamed_62 {d : Nat} (hcs : AllS L X d (cs_R_fewestNamed F_R_canBeOne F_R_lesser)) (x1 : Int32) (x2 : Int32) (x3 : Int32) {o : Option Value × PH} {Q : ((Int32) ⊕ (Int32)) → MI → Prop} (qb : ∀ y I, Q (.inl y) I → At L X (d + 1) 291 34 [(112, .ref 207), (0, .int y), (0, dV), (0, dV)] [] I o) (qr : ∀ v I, Q (.inr v) I → o = (some (.int v), HH I)) (I : MI) (r : (Int32) ⊕ (Int32)) (I1 : MI) (h : K_R_fewestNamed_62 x1 x2 x3 I = some (r, I1)) (hq : Q r I1) : At L X (d + 1) 291 62 [(112, .ref 207), (0, .int x1), (0, .int x2), (0, .int x3)] [] I o := by
  unfold K_R_fewestNamed_62 at h
  obtain ⟨e, I2, h1, h2⟩ := bn_some h
  have w0 := fun w => at_lp (body := B_R_fewestNamed_62 x1 x2) (P := (fun (y : Int32) I => At L X (d + 1) 291 62 [(112, .ref 207), (0, .int x1), (0, .int x2), (0, .int y)] [] I o)) (Q := (fun (e : (Unit)) I => (K_R_fewestNamed_111 x1) I = some (r, I1))) w FU x3 I e I2 h1 h2
  refine w0 ?_
  intro y I r2 I3 h hq2
  exact b_R_fewestNamed_62 hcs x1 x2 (Q := SQ (fun (y : Int32) I => At L X (d + 1) 291 62 [(112, .ref 207), (0, .int x1), (0, .int x2), (0, .int y)] [] I o) (fun (e : (Unit)) I => (K_R_fewestNamed_111 x1) I = some (r, I1))) (fun _ _ w => w) (fun y I w => s_R_fewestNamed_111 hcs x1 qb qr _ _ _ w hq) y I r2 I3 h hq2
def B_R_fewestNamed_34 (y : Int32) : M ((Int32) ⊕ (Int32)) :=
  (if y < (1024 : Int32) then
    bn (F_R_canBeOne y) fun v2 =>
    (if v2 = 0 then
      K_R_fewestNamed_111 y
    else
      K_R_fewestNamed_62 y ((1023 : Int32) &&& (y ^^^ (-1 : Int32))) ((1023 : Int32) &&& (y ^^^ (-1 : Int32))))
  else
    bn (ld 1024 237 (1023 : Int32)) fun v1 =>
    rt (.inr v1))
set_option maxRecDepth 4000 in
theorem e_b_R_fewestNamed_34 (f_R_canBeOne : Int32 → M Int32) (f_R_lesser : Int32 → Int32 → M Int32) (k_62 : Int32 → Int32 → Int32 → M ((Int32) ⊕ (Int32))) (k_111 : Int32 → M ((Int32) ⊕ (Int32))) (y : Int32) : wf (β := (Int32) ⊕ (Int32)) L X q_R_fewestNamed 1 (cs_R_fewestNamed f_R_canBeOne f_R_lesser) [2, 3] [2, 32, 34, 62, 111] (fun pc ls st => mC (Nat.beq pc 62) (mN st <| gI ls 2 fun a2 => gI ls 3 fun a3 => k_62 y a2 a3) (mC (Nat.beq pc 111) (mN st <| gD ls 2 <| gD ls 3 <| k_111 y) (fl))) (fun v => match v with | some (_, .int x) => rt (.inr x) | _ => fl) 79 34 [(112, .ref 207), (0, .int y), (0, dV), (0, dV)] [] = ((if y < (1024 : Int32) then
    bn (f_R_canBeOne y) fun v2 =>
    (if v2 = 0 then
      k_111 y
    else
      k_62 y ((1023 : Int32) &&& (y ^^^ (-1 : Int32))) ((1023 : Int32) &&& (y ^^^ (-1 : Int32))))
  else
    bn (ld 1024 237 (1023 : Int32)) fun v1 =>
    rt (.inr v1))) := rfl
theorem b_R_fewestNamed_34 {d : Nat} (hcs : AllS L X d (cs_R_fewestNamed F_R_canBeOne F_R_lesser)) {o : Option Value × PH} {Q : ((Int32) ⊕ (Int32)) → MI → Prop} (qb : ∀ y I, Q (.inl y) I → At L X (d + 1) 291 34 [(112, .ref 207), (0, .int y), (0, dV), (0, dV)] [] I o) (qr : ∀ v I, Q (.inr v) I → o = (some (.int v), HH I)) (y : Int32) (I : MI) (r : (Int32) ⊕ (Int32)) (I1 : MI) (h : B_R_fewestNamed_34 y I = some (r, I1)) (hq : Q r I1) : At L X (d + 1) 291 34 [(112, .ref 207), (0, .int y), (0, dV), (0, dV)] [] I o := by
  refine wf_ok z_R_fewestNamed hcs ?_ ?_ _ _ _ _ _ ⟨rfl, trivial, trivial, trivial, trivial⟩ trivial (unm_refl _ _) ((congrFun (e_b_R_fewestNamed_34 (L := L) (X := X) F_R_canBeOne F_R_lesser K_R_fewestNamed_62 K_R_fewestNamed_111 y) I).trans h)
  · intro pc ls st I2 h1 h2 h3 h
    rcases mC_ok h with ⟨hb, h⟩ | ⟨_, h⟩
    · have e := Nat.eq_of_beq_eq_true hb
      subst e
      obtain ⟨hst, h⟩ := mN_ok h
      subst hst
      obtain ⟨a2, n2, h⟩ := gI_ok h
      obtain ⟨a3, n3, h⟩ := gI_ok h
      refine at_leaf (ls2 := [(112, .ref 207), (0, .int y), (0, .int a2), (0, .int a3)]) h3.1 ⟨Or.inr ⟨_, (h3.2 0 rfl).trans rfl⟩, Or.inr ⟨_, (h3.2 1 rfl).trans rfl⟩, Or.inr n2, Or.inr n3, trivial⟩ ?_
      exact s_R_fewestNamed_62 hcs y a2 a3 qb qr _ _ _ h hq
    rcases mC_ok h with ⟨hb, h⟩ | ⟨_, h⟩
    · have e := Nat.eq_of_beq_eq_true hb
      subst e
      obtain ⟨hst, h⟩ := mN_ok h
      subst hst
      obtain ⟨n2, h⟩ := gD_ok h
      obtain ⟨n3, h⟩ := gD_ok h
      refine at_leaf (ls2 := [(112, .ref 207), (0, .int y), (0, dV), (0, dV)]) h3.1 ⟨Or.inr ⟨_, (h3.2 0 rfl).trans rfl⟩, Or.inr ⟨_, (h3.2 1 rfl).trans rfl⟩, Or.inl ⟨rfl, n2⟩, Or.inl ⟨rfl, n3⟩, trivial⟩ ?_
      exact s_R_fewestNamed_111 hcs y qb qr _ _ _ h hq
    cases h
  · intro v I2 _ h
    split at h
    · cases h; exact qr _ _ hq
    · cases h
def K_R_fewestNamed_34 (x1 : Int32) : M (Int32) :=
  lp (B_R_fewestNamed_34) FU x1
theorem s_R_fewestNamed_34 {d : Nat} (hcs : AllS L X d (cs_R_fewestNamed F_R_canBeOne F_R_lesser)) (x1 : Int32) {o : Option Value × PH} {Q : (Int32) → MI → Prop} (q0 : ∀ v I, Q v I → o = (some (.int v), HH I)) (I : MI) (r : Int32) (I1 : MI) (h : K_R_fewestNamed_34 x1 I = some (r, I1)) (hq : Q r I1) : At L X (d + 1) 291 34 [(112, .ref 207), (0, .int x1), (0, dV), (0, dV)] [] I o := by
  unfold K_R_fewestNamed_34 at h
  have w0 := fun w => at_lp (body := B_R_fewestNamed_34) (P := (fun (y : Int32) I => At L X (d + 1) 291 34 [(112, .ref 207), (0, .int y), (0, dV), (0, dV)] [] I o)) (Q := (fun (e : Int32) I => Q e I)) w FU x1 I r I1 h hq
  refine w0 ?_
  intro y I r I1 h hq
  exact b_R_fewestNamed_34 hcs (Q := SQ (fun (y : Int32) I => At L X (d + 1) 291 34 [(112, .ref 207), (0, .int y), (0, dV), (0, dV)] [] I o) (fun (e : Int32) I => Q e I)) (fun _ _ w => w) q0 y I r I1 h hq
def K_R_fewestNamed_32 : M (Int32) :=
  K_R_fewestNamed_34 (1 : Int32)
set_option maxRecDepth 4000 in
theorem e_s_R_fewestNamed_32 (f_R_canBeOne : Int32 → M Int32) (f_R_lesser : Int32 → Int32 → M Int32) (k_34 : Int32 → M (Int32)) : wf (β := Int32) L X q_R_fewestNamed 1 (cs_R_fewestNamed f_R_canBeOne f_R_lesser) [1] [2, 32, 34, 62, 111] (fun pc ls st => mC (Nat.beq pc 34) (mN st <| gI ls 1 fun a1 => gD ls 2 <| gD ls 3 <| k_34 a1) (fl)) (fun v => match v with | some (_, .int x) => rt x | _ => fl) 79 32 [(112, .ref 207), (0, dV), (0, dV), (0, dV)] [] = (k_34 (1 : Int32)) := rfl
theorem s_R_fewestNamed_32 {d : Nat} (hcs : AllS L X d (cs_R_fewestNamed F_R_canBeOne F_R_lesser)) {o : Option Value × PH} {Q : (Int32) → MI → Prop} (q0 : ∀ v I, Q v I → o = (some (.int v), HH I)) (I : MI) (r : Int32) (I1 : MI) (h : K_R_fewestNamed_32 I = some (r, I1)) (hq : Q r I1) : At L X (d + 1) 291 32 [(112, .ref 207), (0, dV), (0, dV), (0, dV)] [] I o := by
  refine wf_ok z_R_fewestNamed hcs ?_ ?_ _ _ _ _ _ ⟨rfl, trivial, trivial, trivial, trivial⟩ trivial (unm_refl _ _) ((congrFun (e_s_R_fewestNamed_32 (L := L) (X := X) F_R_canBeOne F_R_lesser K_R_fewestNamed_34) I).trans h)
  · intro pc ls st I2 h1 h2 h3 h
    rcases mC_ok h with ⟨hb, h⟩ | ⟨_, h⟩
    · have e := Nat.eq_of_beq_eq_true hb
      subst e
      obtain ⟨hst, h⟩ := mN_ok h
      subst hst
      obtain ⟨a1, n1, h⟩ := gI_ok h
      obtain ⟨n2, h⟩ := gD_ok h
      obtain ⟨n3, h⟩ := gD_ok h
      refine at_leaf (ls2 := [(112, .ref 207), (0, .int a1), (0, dV), (0, dV)]) h3.1 ⟨Or.inr ⟨_, (h3.2 0 rfl).trans rfl⟩, Or.inr n1, Or.inl ⟨rfl, n2⟩, Or.inl ⟨rfl, n3⟩, trivial⟩ ?_
      exact s_R_fewestNamed_34 hcs a1 q0 _ _ _ h hq
    cases h
  · intro v I2 _ h
    split at h
    · cases h; exact q0 _ _ hq
    · cases h
def K_R_fewestNamed_2 (x1 : Int32) : M (Int32) :=
  bn (lp (B_R_fewestNamed_2) FU x1) fun e => K_R_fewestNamed_32
theorem s_R_fewestNamed_2 {d : Nat} (hcs : AllS L X d (cs_R_fewestNamed F_R_canBeOne F_R_lesser)) (x1 : Int32) {o : Option Value × PH} {Q : (Int32) → MI → Prop} (q0 : ∀ v I, Q v I → o = (some (.int v), HH I)) (I : MI) (r : Int32) (I1 : MI) (h : K_R_fewestNamed_2 x1 I = some (r, I1)) (hq : Q r I1) : At L X (d + 1) 291 2 [(112, .ref 207), (0, .int x1), (0, dV), (0, dV)] [] I o := by
  unfold K_R_fewestNamed_2 at h
  obtain ⟨e, I2, h1, h2⟩ := bn_some h
  have w0 := fun w => at_lp (body := B_R_fewestNamed_2) (P := (fun (y : Int32) I => At L X (d + 1) 291 2 [(112, .ref 207), (0, .int y), (0, dV), (0, dV)] [] I o)) (Q := (fun (e : (Unit)) I => (K_R_fewestNamed_32) I = some (r, I1))) w FU x1 I e I2 h1 h2
  refine w0 ?_
  intro y I r2 I3 h hq2
  exact b_R_fewestNamed_2 hcs (Q := SQ (fun (y : Int32) I => At L X (d + 1) 291 2 [(112, .ref 207), (0, .int y), (0, dV), (0, dV)] [] I o) (fun (e : (Unit)) I => (K_R_fewestNamed_32) I = some (r, I1))) (fun _ _ w => w) (fun y I w => s_R_fewestNamed_32 hcs q0 _ _ _ w hq) y I r2 I3 h hq2
def F_R_fewestNamed : M (Int32) :=
  K_R_fewestNamed_2 (0 : Int32)
set_option maxRecDepth 4000 in
theorem e_s_R_fewestNamed_0 (f_R_canBeOne : Int32 → M Int32) (f_R_lesser : Int32 → Int32 → M Int32) (k_2 : Int32 → M (Int32)) : wf (β := Int32) L X q_R_fewestNamed 1 (cs_R_fewestNamed f_R_canBeOne f_R_lesser) [1] [2, 32, 34, 62, 111] (fun pc ls st => mC (Nat.beq pc 2) (mN st <| gI ls 1 fun a1 => gD ls 2 <| gD ls 3 <| k_2 a1) (fl)) (fun v => match v with | some (_, .int x) => rt x | _ => fl) 79 0 [(112, .ref 207), (0, dV), (0, dV), (0, dV)] [] = (k_2 (0 : Int32)) := rfl
theorem s_R_fewestNamed_0 {d : Nat} (hcs : AllS L X d (cs_R_fewestNamed F_R_canBeOne F_R_lesser)) {o : Option Value × PH} {Q : (Int32) → MI → Prop} (q0 : ∀ v I, Q v I → o = (some (.int v), HH I)) (I : MI) (r : Int32) (I1 : MI) (h : F_R_fewestNamed I = some (r, I1)) (hq : Q r I1) : At L X (d + 1) 291 0 [(112, .ref 207), (0, dV), (0, dV), (0, dV)] [] I o := by
  refine wf_ok z_R_fewestNamed hcs ?_ ?_ _ _ _ _ _ ⟨rfl, trivial, trivial, trivial, trivial⟩ trivial (unm_refl _ _) ((congrFun (e_s_R_fewestNamed_0 (L := L) (X := X) F_R_canBeOne F_R_lesser K_R_fewestNamed_2) I).trans h)
  · intro pc ls st I2 h1 h2 h3 h
    rcases mC_ok h with ⟨hb, h⟩ | ⟨_, h⟩
    · have e := Nat.eq_of_beq_eq_true hb
      subst e
      obtain ⟨hst, h⟩ := mN_ok h
      subst hst
      obtain ⟨a1, n1, h⟩ := gI_ok h
      obtain ⟨n2, h⟩ := gD_ok h
      obtain ⟨n3, h⟩ := gD_ok h
      refine at_leaf (ls2 := [(112, .ref 207), (0, .int a1), (0, dV), (0, dV)]) h3.1 ⟨Or.inr ⟨_, (h3.2 0 rfl).trans rfl⟩, Or.inr n1, Or.inl ⟨rfl, n2⟩, Or.inl ⟨rfl, n3⟩, trivial⟩ ?_
      exact s_R_fewestNamed_2 hcs a1 q0 _ _ _ h hq
    cases h
  · intro v I2 _ h
    split at h
    · cases h; exact q0 _ _ hq
    · cases h
theorem w_R_fewestNamed {d : Nat} (hcs : AllS L X d (cs_R_fewestNamed F_R_canBeOne F_R_lesser)) : Snd L X (d + 1) 291 1 (W_R_fewestNamed F_R_fewestNamed) := by
  refine ⟨_, z_R_fewestNamed, rfl, fun β args k I r hty hlen h => ?_⟩
  unfold W_R_fewestNamed at h
  split at h
  · rename_i t0 a0
    obtain ⟨hb0, h⟩ := mB_ok h
    have e0 := Nat.eq_of_beq_eq_true hb0
    have g0 : okB 112 a0 = true := e0 ▸ hty.1
    have e20 := one_112 g0
    subst e20
    obtain ⟨v, I1, h1, h2⟩ := bn_some h
    refine ⟨gf_obj (c := 12) (by decide) g0, rfl, some (0, .int v), I1, trivial, ?_, h2⟩
    exact s_R_fewestNamed_0 hcs   (Q := fun w I => w = v ∧ I = I1) (fun w I q => by obtain ⟨rfl, rfl⟩ := q; rfl) I v I1 h1 ⟨rfl, rfl⟩
  · cases h
theorem S_R_fewestNamed {d : Nat} (hd : 4 ≤ d) : Snd L X d 291 1 (W_R_fewestNamed F_R_fewestNamed) := by
  obtain ⟨e, rfl⟩ : ∃ e, d = e + 1 := ⟨d - 1, by omega⟩
  exact w_R_fewestNamed ⟨S_R_canBeOne (by omega), S_R_lesser (by omega), trivial⟩
set_option maxRecDepth 100000 in
theorem z_R_groups : pT[289]? = some (q_R_groups, 1, 4, 1, 12) := rfl
def W_R_groups (F : M Int32) : CSem := fun _ args k => match args with
  | [(t0, .ref a0)] => mB (Nat.beq t0 112) <| bn (F) fun v => k (some (0, .int v))
  | _ => fl
def cs_R_groups (f_R_groupOf : Int32 → M Int32) (f_R_has : Int32 → Int32 → M Int32) : List (Nat × Nat × CSem) := [(290, 2, W_R_groupOf f_R_groupOf), (286, 3, W_R_has f_R_has)]
def B_R_groups_6 (y : Int32 × Int32 × Int32) : M ((Int32 × Int32 × Int32) ⊕ (Int32)) :=
  (if y.2.2 < (10 : Int32) then
    bn (F_R_has y.2.1 y.2.2) fun v1 =>
    (if v1 = 0 then
      bn (F_R_groupOf y.2.2) fun v3 =>
      rt (.inl ((y.1 + (1 : Int32)), (y.2.1 ||| v3), (y.2.2 + (1 : Int32))))
    else
      bn (F_R_groupOf y.2.2) fun v2 =>
      rt (.inl (y.1, (y.2.1 ||| v2), (y.2.2 + (1 : Int32)))))
  else
    rt (.inr y.1))
set_option maxRecDepth 4000 in
theorem e_b_R_groups_6 (f_R_groupOf : Int32 → M Int32) (f_R_has : Int32 → Int32 → M Int32) (y : Int32 × Int32 × Int32) : wf (β := (Int32 × Int32 × Int32) ⊕ (Int32)) L X q_R_groups 1 (cs_R_groups f_R_groupOf f_R_has) [1, 2, 3] [6] (fun pc ls st => mC (Nat.beq pc 6) (mN st <| gI ls 1 fun a1 => gI ls 2 fun a2 => gI ls 3 fun a3 => rt (.inl (a1, a2, a3))) (fl)) (fun v => match v with | some (_, .int x) => rt (.inr x) | _ => fl) 33 6 [(112, .ref 207), (0, .int y.1), (0, .int y.2.1), (0, .int y.2.2)] [] = ((if y.2.2 < (10 : Int32) then
    bn (f_R_has y.2.1 y.2.2) fun v1 =>
    (if v1 = 0 then
      bn (f_R_groupOf y.2.2) fun v3 =>
      rt (.inl ((y.1 + (1 : Int32)), (y.2.1 ||| v3), (y.2.2 + (1 : Int32))))
    else
      bn (f_R_groupOf y.2.2) fun v2 =>
      rt (.inl (y.1, (y.2.1 ||| v2), (y.2.2 + (1 : Int32)))))
  else
    rt (.inr y.1))) := rfl
theorem b_R_groups_6 {d : Nat} (hcs : AllS L X d (cs_R_groups F_R_groupOf F_R_has)) {o : Option Value × PH} {Q : ((Int32 × Int32 × Int32) ⊕ (Int32)) → MI → Prop} (qb : ∀ y I, Q (.inl y) I → At L X (d + 1) 289 6 [(112, .ref 207), (0, .int y.1), (0, .int y.2.1), (0, .int y.2.2)] [] I o) (qr : ∀ v I, Q (.inr v) I → o = (some (.int v), HH I)) (y : Int32 × Int32 × Int32) (I : MI) (r : (Int32 × Int32 × Int32) ⊕ (Int32)) (I1 : MI) (h : B_R_groups_6 y I = some (r, I1)) (hq : Q r I1) : At L X (d + 1) 289 6 [(112, .ref 207), (0, .int y.1), (0, .int y.2.1), (0, .int y.2.2)] [] I o := by
  refine wf_ok z_R_groups hcs ?_ ?_ _ _ _ _ _ ⟨rfl, trivial, trivial, trivial, trivial⟩ trivial (unm_refl _ _) ((congrFun (e_b_R_groups_6 (L := L) (X := X) F_R_groupOf F_R_has y) I).trans h)
  · intro pc ls st I2 h1 h2 h3 h
    rcases mC_ok h with ⟨hb, h⟩ | ⟨_, h⟩
    · have e := Nat.eq_of_beq_eq_true hb
      subst e
      obtain ⟨hst, h⟩ := mN_ok h
      subst hst
      obtain ⟨a1, n1, h⟩ := gI_ok h
      obtain ⟨a2, n2, h⟩ := gI_ok h
      obtain ⟨a3, n3, h⟩ := gI_ok h
      refine at_leaf (ls2 := [(112, .ref 207), (0, .int a1), (0, .int a2), (0, .int a3)]) h3.1 ⟨Or.inr ⟨_, (h3.2 0 rfl).trans rfl⟩, Or.inr n1, Or.inr n2, Or.inr n3, trivial⟩ ?_
      cases h; exact qb _ _ hq
    cases h
  · intro v I2 _ h
    split at h
    · cases h; exact qr _ _ hq
    · cases h
def K_R_groups_6 (x1 : Int32) (x2 : Int32) (x3 : Int32) : M (Int32) :=
  lp (B_R_groups_6) FU (x1, x2, x3)
theorem s_R_groups_6 {d : Nat} (hcs : AllS L X d (cs_R_groups F_R_groupOf F_R_has)) (x1 : Int32) (x2 : Int32) (x3 : Int32) {o : Option Value × PH} {Q : (Int32) → MI → Prop} (q0 : ∀ v I, Q v I → o = (some (.int v), HH I)) (I : MI) (r : Int32) (I1 : MI) (h : K_R_groups_6 x1 x2 x3 I = some (r, I1)) (hq : Q r I1) : At L X (d + 1) 289 6 [(112, .ref 207), (0, .int x1), (0, .int x2), (0, .int x3)] [] I o := by
  unfold K_R_groups_6 at h
  have w0 := fun w => at_lp (body := B_R_groups_6) (P := (fun (y : Int32 × Int32 × Int32) I => At L X (d + 1) 289 6 [(112, .ref 207), (0, .int y.1), (0, .int y.2.1), (0, .int y.2.2)] [] I o)) (Q := (fun (e : Int32) I => Q e I)) w FU (x1, x2, x3) I r I1 h hq
  refine w0 ?_
  intro y I r I1 h hq
  exact b_R_groups_6 hcs (Q := SQ (fun (y : Int32 × Int32 × Int32) I => At L X (d + 1) 289 6 [(112, .ref 207), (0, .int y.1), (0, .int y.2.1), (0, .int y.2.2)] [] I o) (fun (e : Int32) I => Q e I)) (fun _ _ w => w) q0 y I r I1 h hq
def F_R_groups : M (Int32) :=
  K_R_groups_6 (0 : Int32) (0 : Int32) (0 : Int32)
set_option maxRecDepth 4000 in
theorem e_s_R_groups_0 (f_R_groupOf : Int32 → M Int32) (f_R_has : Int32 → Int32 → M Int32) (k_6 : Int32 → Int32 → Int32 → M (Int32)) : wf (β := Int32) L X q_R_groups 1 (cs_R_groups f_R_groupOf f_R_has) [1, 2, 3] [6] (fun pc ls st => mC (Nat.beq pc 6) (mN st <| gI ls 1 fun a1 => gI ls 2 fun a2 => gI ls 3 fun a3 => k_6 a1 a2 a3) (fl)) (fun v => match v with | some (_, .int x) => rt x | _ => fl) 33 0 [(112, .ref 207), (0, dV), (0, dV), (0, dV)] [] = (k_6 (0 : Int32) (0 : Int32) (0 : Int32)) := rfl
theorem s_R_groups_0 {d : Nat} (hcs : AllS L X d (cs_R_groups F_R_groupOf F_R_has)) {o : Option Value × PH} {Q : (Int32) → MI → Prop} (q0 : ∀ v I, Q v I → o = (some (.int v), HH I)) (I : MI) (r : Int32) (I1 : MI) (h : F_R_groups I = some (r, I1)) (hq : Q r I1) : At L X (d + 1) 289 0 [(112, .ref 207), (0, dV), (0, dV), (0, dV)] [] I o := by
  refine wf_ok z_R_groups hcs ?_ ?_ _ _ _ _ _ ⟨rfl, trivial, trivial, trivial, trivial⟩ trivial (unm_refl _ _) ((congrFun (e_s_R_groups_0 (L := L) (X := X) F_R_groupOf F_R_has K_R_groups_6) I).trans h)
  · intro pc ls st I2 h1 h2 h3 h
    rcases mC_ok h with ⟨hb, h⟩ | ⟨_, h⟩
    · have e := Nat.eq_of_beq_eq_true hb
      subst e
      obtain ⟨hst, h⟩ := mN_ok h
      subst hst
      obtain ⟨a1, n1, h⟩ := gI_ok h
      obtain ⟨a2, n2, h⟩ := gI_ok h
      obtain ⟨a3, n3, h⟩ := gI_ok h
      refine at_leaf (ls2 := [(112, .ref 207), (0, .int a1), (0, .int a2), (0, .int a3)]) h3.1 ⟨Or.inr ⟨_, (h3.2 0 rfl).trans rfl⟩, Or.inr n1, Or.inr n2, Or.inr n3, trivial⟩ ?_
      exact s_R_groups_6 hcs a1 a2 a3 q0 _ _ _ h hq
    cases h
  · intro v I2 _ h
    split at h
    · cases h; exact q0 _ _ hq
    · cases h
theorem w_R_groups {d : Nat} (hcs : AllS L X d (cs_R_groups F_R_groupOf F_R_has)) : Snd L X (d + 1) 289 1 (W_R_groups F_R_groups) := by
  refine ⟨_, z_R_groups, rfl, fun β args k I r hty hlen h => ?_⟩
  unfold W_R_groups at h
  split at h
  · rename_i t0 a0
    obtain ⟨hb0, h⟩ := mB_ok h
    have e0 := Nat.eq_of_beq_eq_true hb0
    have g0 : okB 112 a0 = true := e0 ▸ hty.1
    have e20 := one_112 g0
    subst e20
    obtain ⟨v, I1, h1, h2⟩ := bn_some h
    refine ⟨gf_obj (c := 12) (by decide) g0, rfl, some (0, .int v), I1, trivial, ?_, h2⟩
    exact s_R_groups_0 hcs   (Q := fun w I => w = v ∧ I = I1) (fun w I q => by obtain ⟨rfl, rfl⟩ := q; rfl) I v I1 h1 ⟨rfl, rfl⟩
  · cases h
theorem S_R_groups {d : Nat} (hd : 3 ≤ d) : Snd L X d 289 1 (W_R_groups F_R_groups) := by
  obtain ⟨e, rfl⟩ : ∃ e, d = e + 1 := ⟨d - 1, by omega⟩
  exact w_R_groups ⟨S_R_groupOf (by omega), S_R_has (by omega), trivial⟩
set_option maxRecDepth 100000 in
theorem z_R_names : pT[288]? = some (q_R_names, 2, 4, 1, 12) := rfl
def W_R_names (F : Int32 → M Int32) : CSem := fun _ args k => match args with
  | [(t0, .ref a0), (_, .int a1)] => mB (Nat.beq t0 112) <| bn (F a1) fun v => k (some (0, .int v))
  | _ => fl
def cs_R_names (f_R_fewestNamed : M Int32) (f_R_groupOf : Int32 → M Int32) (f_R_groups : M Int32) (f_R_isIn : Int32 → Int32 → Int32 → M Int32) : List (Nat × Nat × CSem) := [(291, 1, W_R_fewestNamed f_R_fewestNamed), (290, 2, W_R_groupOf f_R_groupOf), (289, 1, W_R_groups f_R_groups), (195, 4, W_R_isIn f_R_isIn)]
def B_R_names_30 (x1 : Int32) (y : Int32 × Int32) : M ((Int32 × Int32) ⊕ ((Int32))) :=
  (if y.2 < (10 : Int32) then
    bn (F_R_groupOf y.2) fun v1 =>
    bn (ld 10 236 y.2) fun v2 =>
    (if (v1 &&& v2) = 0 then
      rt (.inl (y.1, (y.2 + (1 : Int32))))
    else
      rt (.inl ((0 : Int32), (y.2 + (1 : Int32)))))
  else
    rt (.inr y.1))
set_option maxRecDepth 4000 in
theorem e_b_R_names_30 (f_R_fewestNamed : M Int32) (f_R_groupOf : Int32 → M Int32) (f_R_groups : M Int32) (f_R_isIn : Int32 → Int32 → Int32 → M Int32) (x1 : Int32) (y : Int32 × Int32) : wf (β := (Int32 × Int32) ⊕ ((Int32))) L X q_R_names 1 (cs_R_names f_R_fewestNamed f_R_groupOf f_R_groups f_R_isIn) [2, 3] [30, 59] (fun pc ls st => mC (Nat.beq pc 30) (mN st <| gI ls 2 fun a2 => gI ls 3 fun a3 => rt (.inl (a2, a3))) (mC (Nat.beq pc 59) (mN st <| gI ls 2 fun a2 => gD ls 3 <| rt (.inr a2)) (fl))) (fun _ => fl) 57 30 [(112, .ref 207), (0, .int x1), (0, .int y.1), (0, .int y.2)] [] = ((if y.2 < (10 : Int32) then
    bn (f_R_groupOf y.2) fun v1 =>
    bn (ld 10 236 y.2) fun v2 =>
    (if (v1 &&& v2) = 0 then
      rt (.inl (y.1, (y.2 + (1 : Int32))))
    else
      rt (.inl ((0 : Int32), (y.2 + (1 : Int32)))))
  else
    rt (.inr y.1))) := rfl
theorem b_R_names_30 {d : Nat} (hcs : AllS L X d (cs_R_names F_R_fewestNamed F_R_groupOf F_R_groups F_R_isIn)) (x1 : Int32) {o : Option Value × PH} {Q : ((Int32 × Int32) ⊕ ((Int32))) → MI → Prop} (qb : ∀ y I, Q (.inl y) I → At L X (d + 1) 288 30 [(112, .ref 207), (0, .int x1), (0, .int y.1), (0, .int y.2)] [] I o) (qe59 : ∀ y I, Q (.inr y) I → At L X (d + 1) 288 59 [(112, .ref 207), (0, .int x1), (0, .int y), (0, dV)] [] I o) (y : Int32 × Int32) (I : MI) (r : (Int32 × Int32) ⊕ ((Int32))) (I1 : MI) (h : B_R_names_30 x1 y I = some (r, I1)) (hq : Q r I1) : At L X (d + 1) 288 30 [(112, .ref 207), (0, .int x1), (0, .int y.1), (0, .int y.2)] [] I o := by
  refine wf_ok z_R_names hcs ?_ ?_ _ _ _ _ _ ⟨rfl, trivial, trivial, trivial, trivial⟩ trivial (unm_refl _ _) ((congrFun (e_b_R_names_30 (L := L) (X := X) F_R_fewestNamed F_R_groupOf F_R_groups F_R_isIn x1 y) I).trans h)
  · intro pc ls st I2 h1 h2 h3 h
    rcases mC_ok h with ⟨hb, h⟩ | ⟨_, h⟩
    · have e := Nat.eq_of_beq_eq_true hb
      subst e
      obtain ⟨hst, h⟩ := mN_ok h
      subst hst
      obtain ⟨a2, n2, h⟩ := gI_ok h
      obtain ⟨a3, n3, h⟩ := gI_ok h
      refine at_leaf (ls2 := [(112, .ref 207), (0, .int x1), (0, .int a2), (0, .int a3)]) h3.1 ⟨Or.inr ⟨_, (h3.2 0 rfl).trans rfl⟩, Or.inr ⟨_, (h3.2 1 rfl).trans rfl⟩, Or.inr n2, Or.inr n3, trivial⟩ ?_
      cases h; exact qb _ _ hq
    rcases mC_ok h with ⟨hb, h⟩ | ⟨_, h⟩
    · have e := Nat.eq_of_beq_eq_true hb
      subst e
      obtain ⟨hst, h⟩ := mN_ok h
      subst hst
      obtain ⟨a2, n2, h⟩ := gI_ok h
      obtain ⟨n3, h⟩ := gD_ok h
      refine at_leaf (ls2 := [(112, .ref 207), (0, .int x1), (0, .int a2), (0, dV)]) h3.1 ⟨Or.inr ⟨_, (h3.2 0 rfl).trans rfl⟩, Or.inr ⟨_, (h3.2 1 rfl).trans rfl⟩, Or.inr n2, Or.inl ⟨rfl, n3⟩, trivial⟩ ?_
      cases h; exact qe59 _ _ hq
    cases h
  · intro v I2 _ h
    cases h
def K_R_names_59 (x1 : Int32) (x2 : Int32) : M (Int32) :=
  (if x1 = (1 : Int32) then
    (if x2 = 0 then
      rt (0 : Int32)
    else
      rt (1 : Int32))
  else
    (if x2 = 0 then
      rt (-1 : Int32)
    else
      bn (F_R_fewestNamed) fun v1 =>
      rt v1))
set_option maxRecDepth 4000 in
theorem e_s_R_names_59 (f_R_fewestNamed : M Int32) (f_R_groupOf : Int32 → M Int32) (f_R_groups : M Int32) (f_R_isIn : Int32 → Int32 → Int32 → M Int32) (x1 : Int32) (x2 : Int32) : wf (β := Int32) L X q_R_names 1 (cs_R_names f_R_fewestNamed f_R_groupOf f_R_groups f_R_isIn) [] [30, 59] (fun _ _ _ => fl) (fun v => match v with | some (_, .int x) => rt x | _ => fl) 57 59 [(112, .ref 207), (0, .int x1), (0, .int x2), (0, dV)] [] = ((if x1 = (1 : Int32) then
    (if x2 = 0 then
      rt (0 : Int32)
    else
      rt (1 : Int32))
  else
    (if x2 = 0 then
      rt (-1 : Int32)
    else
      bn (f_R_fewestNamed) fun v1 =>
      rt v1))) := rfl
theorem s_R_names_59 {d : Nat} (hcs : AllS L X d (cs_R_names F_R_fewestNamed F_R_groupOf F_R_groups F_R_isIn)) (x1 : Int32) (x2 : Int32) {o : Option Value × PH} {Q : (Int32) → MI → Prop} (q0 : ∀ v I, Q v I → o = (some (.int v), HH I)) (I : MI) (r : Int32) (I1 : MI) (h : K_R_names_59 x1 x2 I = some (r, I1)) (hq : Q r I1) : At L X (d + 1) 288 59 [(112, .ref 207), (0, .int x1), (0, .int x2), (0, dV)] [] I o := by
  refine wf_ok z_R_names hcs ?_ ?_ _ _ _ _ _ ⟨rfl, trivial, trivial, trivial, trivial⟩ trivial (unm_refl _ _) ((congrFun (e_s_R_names_59 (L := L) (X := X) F_R_fewestNamed F_R_groupOf F_R_groups F_R_isIn x1 x2) I).trans h)
  · intro pc ls st I2 h1 h2 h3 h
    cases h
  · intro v I2 _ h
    split at h
    · cases h; exact q0 _ _ hq
    · cases h
def K_R_names_30 (x1 : Int32) (x2 : Int32) (x3 : Int32) : M (Int32) :=
  bn (lp (B_R_names_30 x1) FU (x2, x3)) fun e => K_R_names_59 x1 e
theorem s_R_names_30 {d : Nat} (hcs : AllS L X d (cs_R_names F_R_fewestNamed F_R_groupOf F_R_groups F_R_isIn)) (x1 : Int32) (x2 : Int32) (x3 : Int32) {o : Option Value × PH} {Q : (Int32) → MI → Prop} (q0 : ∀ v I, Q v I → o = (some (.int v), HH I)) (I : MI) (r : Int32) (I1 : MI) (h : K_R_names_30 x1 x2 x3 I = some (r, I1)) (hq : Q r I1) : At L X (d + 1) 288 30 [(112, .ref 207), (0, .int x1), (0, .int x2), (0, .int x3)] [] I o := by
  unfold K_R_names_30 at h
  obtain ⟨e, I2, h1, h2⟩ := bn_some h
  have w0 := fun w => at_lp (body := B_R_names_30 x1) (P := (fun (y : Int32 × Int32) I => At L X (d + 1) 288 30 [(112, .ref 207), (0, .int x1), (0, .int y.1), (0, .int y.2)] [] I o)) (Q := (fun (e : (Int32)) I => (K_R_names_59 x1 e) I = some (r, I1))) w FU (x2, x3) I e I2 h1 h2
  refine w0 ?_
  intro y I r2 I3 h hq2
  exact b_R_names_30 hcs x1 (Q := SQ (fun (y : Int32 × Int32) I => At L X (d + 1) 288 30 [(112, .ref 207), (0, .int x1), (0, .int y.1), (0, .int y.2)] [] I o) (fun (e : (Int32)) I => (K_R_names_59 x1 e) I = some (r, I1))) (fun _ _ w => w) (fun y I w => s_R_names_59 hcs x1 y q0 _ _ _ w hq) y I r2 I3 h hq2
def F_R_names (x1 : Int32) : M (Int32) :=
  bn (wr 207 0 (0 : Int32)) fun _ =>
  bn (F_R_isIn x1 (0 : Int32) (2 : Int32)) fun v1 =>
  (if v1 = 0 then
    rt (-1 : Int32)
  else
    (if x1 = 0 then
      bn (F_R_groups) fun v2 =>
      rt v2
    else
      K_R_names_30 x1 (1 : Int32) (0 : Int32)))
set_option maxRecDepth 4000 in
theorem e_s_R_names_0 (f_R_fewestNamed : M Int32) (f_R_groupOf : Int32 → M Int32) (f_R_groups : M Int32) (f_R_isIn : Int32 → Int32 → Int32 → M Int32) (k_30 : Int32 → Int32 → Int32 → M (Int32)) (x1 : Int32) : wf (β := Int32) L X q_R_names 1 (cs_R_names f_R_fewestNamed f_R_groupOf f_R_groups f_R_isIn) [2, 3] [30, 59] (fun pc ls st => mC (Nat.beq pc 30) (mN st <| gI ls 2 fun a2 => gI ls 3 fun a3 => k_30 x1 a2 a3) (fl)) (fun v => match v with | some (_, .int x) => rt x | _ => fl) 57 0 [(112, .ref 207), (0, .int x1), (0, dV), (0, dV)] [] = (bn (wr 207 0 (0 : Int32)) fun _ =>
  bn (f_R_isIn x1 (0 : Int32) (2 : Int32)) fun v1 =>
  (if v1 = 0 then
    rt (-1 : Int32)
  else
    (if x1 = 0 then
      bn (f_R_groups) fun v2 =>
      rt v2
    else
      k_30 x1 (1 : Int32) (0 : Int32)))) := rfl
theorem s_R_names_0 {d : Nat} (hcs : AllS L X d (cs_R_names F_R_fewestNamed F_R_groupOf F_R_groups F_R_isIn)) (x1 : Int32) {o : Option Value × PH} {Q : (Int32) → MI → Prop} (q0 : ∀ v I, Q v I → o = (some (.int v), HH I)) (I : MI) (r : Int32) (I1 : MI) (h : F_R_names x1 I = some (r, I1)) (hq : Q r I1) : At L X (d + 1) 288 0 [(112, .ref 207), (0, .int x1), (0, dV), (0, dV)] [] I o := by
  refine wf_ok z_R_names hcs ?_ ?_ _ _ _ _ _ ⟨rfl, trivial, trivial, trivial, trivial⟩ trivial (unm_refl _ _) ((congrFun (e_s_R_names_0 (L := L) (X := X) F_R_fewestNamed F_R_groupOf F_R_groups F_R_isIn K_R_names_30 x1) I).trans h)
  · intro pc ls st I2 h1 h2 h3 h
    rcases mC_ok h with ⟨hb, h⟩ | ⟨_, h⟩
    · have e := Nat.eq_of_beq_eq_true hb
      subst e
      obtain ⟨hst, h⟩ := mN_ok h
      subst hst
      obtain ⟨a2, n2, h⟩ := gI_ok h
      obtain ⟨a3, n3, h⟩ := gI_ok h
      refine at_leaf (ls2 := [(112, .ref 207), (0, .int x1), (0, .int a2), (0, .int a3)]) h3.1 ⟨Or.inr ⟨_, (h3.2 0 rfl).trans rfl⟩, Or.inr ⟨_, (h3.2 1 rfl).trans rfl⟩, Or.inr n2, Or.inr n3, trivial⟩ ?_
      exact s_R_names_30 hcs x1 a2 a3 q0 _ _ _ h hq
    cases h
  · intro v I2 _ h
    split at h
    · cases h; exact q0 _ _ hq
    · cases h
theorem w_R_names {d : Nat} (hcs : AllS L X d (cs_R_names F_R_fewestNamed F_R_groupOf F_R_groups F_R_isIn)) : Snd L X (d + 1) 288 2 (W_R_names F_R_names) := by
  refine ⟨_, z_R_names, rfl, fun β args k I r hty hlen h => ?_⟩
  unfold W_R_names at h
  split at h
  · rename_i t0 a0 u1 a1
    obtain ⟨hb0, h⟩ := mB_ok h
    have e0 := Nat.eq_of_beq_eq_true hb0
    have g0 : okB 112 a0 = true := e0 ▸ hty.1
    have e20 := one_112 g0
    subst e20
    obtain ⟨v, I1, h1, h2⟩ := bn_some h
    refine ⟨gf_obj (c := 12) (by decide) g0, rfl, some (0, .int v), I1, trivial, ?_, h2⟩
    exact s_R_names_0 hcs a1  (Q := fun w I => w = v ∧ I = I1) (fun w I q => by obtain ⟨rfl, rfl⟩ := q; rfl) I v I1 h1 ⟨rfl, rfl⟩
  · cases h
theorem S_R_names {d : Nat} (hd : 5 ≤ d) : Snd L X d 288 2 (W_R_names F_R_names) := by
  obtain ⟨e, rfl⟩ : ∃ e, d = e + 1 := ⟨d - 1, by omega⟩
  exact w_R_names ⟨S_R_fewestNamed (by omega), S_R_groupOf (by omega), S_R_groups (by omega), S_R_isIn (by omega), trivial⟩
set_option maxRecDepth 100000 in
theorem z_R_netAt : pT[317]? = some (q_R_netAt, 3, 5, 1, 12) := rfl
def W_R_netAt (F : Int32 → Int32 → M Int32) : CSem := fun _ args k => match args with
  | [(t0, .ref a0), (_, .int a1), (_, .int a2)] => mB (Nat.beq t0 112) <| bn (F a1 a2) fun v => k (some (0, .int v))
  | _ => fl
def cs_R_netAt (f_R_isIn : Int32 → Int32 → Int32 → M Int32) (f_R_isStruck : Int32 → M Int32) : List (Nat × Nat × CSem) := [(195, 4, W_R_isIn f_R_isIn), (246, 2, W_R_isStruck f_R_isStruck)]
def B_R_netAt_5 (x1 : Int32) (x2 : Int32) (y : Int32 × Int32) : M ((Int32 × Int32) ⊕ (Int32)) :=
  bn (rd 207 7) fun v1 =>
  (if y.2 < v1 then
    bn (F_R_isStruck y.2) fun v2 =>
    (if v2 = 0 then
      bn (ld 95 208 ((23 : Int32) + y.2)) fun v3 =>
      bn (F_R_isIn v3 x1 ((x1 + x2) - (1 : Int32))) fun v4 =>
      (if v4 = 0 then
        rt (.inl (y.1, (y.2 + (1 : Int32))))
      else
        rt (.inl ((y.1 + (1 : Int32)), (y.2 + (1 : Int32)))))
    else
      rt (.inl (y.1, (y.2 + (1 : Int32)))))
  else
    rt (.inr y.1))
set_option maxRecDepth 4000 in
theorem e_b_R_netAt_5 (f_R_isIn : Int32 → Int32 → Int32 → M Int32) (f_R_isStruck : Int32 → M Int32) (x1 : Int32) (x2 : Int32) (y : Int32 × Int32) : wf (β := (Int32 × Int32) ⊕ (Int32)) L X q_R_netAt 1 (cs_R_netAt f_R_isIn f_R_isStruck) [3, 4] [5] (fun pc ls st => mC (Nat.beq pc 5) (mN st <| gI ls 3 fun a3 => gI ls 4 fun a4 => rt (.inl (a3, a4))) (fl)) (fun v => match v with | some (_, .int x) => rt (.inr x) | _ => fl) 40 5 [(112, .ref 207), (0, .int x1), (0, .int x2), (0, .int y.1), (0, .int y.2)] [] = (bn (rd 207 7) fun v1 =>
  (if y.2 < v1 then
    bn (f_R_isStruck y.2) fun v2 =>
    (if v2 = 0 then
      bn (ld 95 208 ((23 : Int32) + y.2)) fun v3 =>
      bn (f_R_isIn v3 x1 ((x1 + x2) - (1 : Int32))) fun v4 =>
      (if v4 = 0 then
        rt (.inl (y.1, (y.2 + (1 : Int32))))
      else
        rt (.inl ((y.1 + (1 : Int32)), (y.2 + (1 : Int32)))))
    else
      rt (.inl (y.1, (y.2 + (1 : Int32)))))
  else
    rt (.inr y.1))) := rfl
theorem b_R_netAt_5 {d : Nat} (hcs : AllS L X d (cs_R_netAt F_R_isIn F_R_isStruck)) (x1 : Int32) (x2 : Int32) {o : Option Value × PH} {Q : ((Int32 × Int32) ⊕ (Int32)) → MI → Prop} (qb : ∀ y I, Q (.inl y) I → At L X (d + 1) 317 5 [(112, .ref 207), (0, .int x1), (0, .int x2), (0, .int y.1), (0, .int y.2)] [] I o) (qr : ∀ v I, Q (.inr v) I → o = (some (.int v), HH I)) (y : Int32 × Int32) (I : MI) (r : (Int32 × Int32) ⊕ (Int32)) (I1 : MI) (h : B_R_netAt_5 x1 x2 y I = some (r, I1)) (hq : Q r I1) : At L X (d + 1) 317 5 [(112, .ref 207), (0, .int x1), (0, .int x2), (0, .int y.1), (0, .int y.2)] [] I o := by
  refine wf_ok z_R_netAt hcs ?_ ?_ _ _ _ _ _ ⟨rfl, trivial, trivial, trivial, trivial, trivial⟩ trivial (unm_refl _ _) ((congrFun (e_b_R_netAt_5 (L := L) (X := X) F_R_isIn F_R_isStruck x1 x2 y) I).trans h)
  · intro pc ls st I2 h1 h2 h3 h
    rcases mC_ok h with ⟨hb, h⟩ | ⟨_, h⟩
    · have e := Nat.eq_of_beq_eq_true hb
      subst e
      obtain ⟨hst, h⟩ := mN_ok h
      subst hst
      obtain ⟨a3, n3, h⟩ := gI_ok h
      obtain ⟨a4, n4, h⟩ := gI_ok h
      refine at_leaf (ls2 := [(112, .ref 207), (0, .int x1), (0, .int x2), (0, .int a3), (0, .int a4)]) h3.1 ⟨Or.inr ⟨_, (h3.2 0 rfl).trans rfl⟩, Or.inr ⟨_, (h3.2 1 rfl).trans rfl⟩, Or.inr ⟨_, (h3.2 2 rfl).trans rfl⟩, Or.inr n3, Or.inr n4, trivial⟩ ?_
      cases h; exact qb _ _ hq
    cases h
  · intro v I2 _ h
    split at h
    · cases h; exact qr _ _ hq
    · cases h
def K_R_netAt_5 (x1 : Int32) (x2 : Int32) (x3 : Int32) (x4 : Int32) : M (Int32) :=
  lp (B_R_netAt_5 x1 x2) FU (x3, x4)
theorem s_R_netAt_5 {d : Nat} (hcs : AllS L X d (cs_R_netAt F_R_isIn F_R_isStruck)) (x1 : Int32) (x2 : Int32) (x3 : Int32) (x4 : Int32) {o : Option Value × PH} {Q : (Int32) → MI → Prop} (q0 : ∀ v I, Q v I → o = (some (.int v), HH I)) (I : MI) (r : Int32) (I1 : MI) (h : K_R_netAt_5 x1 x2 x3 x4 I = some (r, I1)) (hq : Q r I1) : At L X (d + 1) 317 5 [(112, .ref 207), (0, .int x1), (0, .int x2), (0, .int x3), (0, .int x4)] [] I o := by
  unfold K_R_netAt_5 at h
  have w0 := fun w => at_lp (body := B_R_netAt_5 x1 x2) (P := (fun (y : Int32 × Int32) I => At L X (d + 1) 317 5 [(112, .ref 207), (0, .int x1), (0, .int x2), (0, .int y.1), (0, .int y.2)] [] I o)) (Q := (fun (e : Int32) I => Q e I)) w FU (x3, x4) I r I1 h hq
  refine w0 ?_
  intro y I r I1 h hq
  exact b_R_netAt_5 hcs x1 x2 (Q := SQ (fun (y : Int32 × Int32) I => At L X (d + 1) 317 5 [(112, .ref 207), (0, .int x1), (0, .int x2), (0, .int y.1), (0, .int y.2)] [] I o) (fun (e : Int32) I => Q e I)) (fun _ _ w => w) q0 y I r I1 h hq
def F_R_netAt (x1 : Int32) (x2 : Int32) : M (Int32) :=
  K_R_netAt_5 x1 x2 (0 : Int32) (0 : Int32)
set_option maxRecDepth 4000 in
theorem e_s_R_netAt_0 (f_R_isIn : Int32 → Int32 → Int32 → M Int32) (f_R_isStruck : Int32 → M Int32) (k_5 : Int32 → Int32 → Int32 → Int32 → M (Int32)) (x1 : Int32) (x2 : Int32) : wf (β := Int32) L X q_R_netAt 1 (cs_R_netAt f_R_isIn f_R_isStruck) [3, 4] [5] (fun pc ls st => mC (Nat.beq pc 5) (mN st <| gI ls 3 fun a3 => gI ls 4 fun a4 => k_5 x1 x2 a3 a4) (fl)) (fun v => match v with | some (_, .int x) => rt x | _ => fl) 40 0 [(112, .ref 207), (0, .int x1), (0, .int x2), (0, dV), (0, dV)] [] = (k_5 x1 x2 (0 : Int32) (0 : Int32)) := rfl
theorem s_R_netAt_0 {d : Nat} (hcs : AllS L X d (cs_R_netAt F_R_isIn F_R_isStruck)) (x1 : Int32) (x2 : Int32) {o : Option Value × PH} {Q : (Int32) → MI → Prop} (q0 : ∀ v I, Q v I → o = (some (.int v), HH I)) (I : MI) (r : Int32) (I1 : MI) (h : F_R_netAt x1 x2 I = some (r, I1)) (hq : Q r I1) : At L X (d + 1) 317 0 [(112, .ref 207), (0, .int x1), (0, .int x2), (0, dV), (0, dV)] [] I o := by
  refine wf_ok z_R_netAt hcs ?_ ?_ _ _ _ _ _ ⟨rfl, trivial, trivial, trivial, trivial, trivial⟩ trivial (unm_refl _ _) ((congrFun (e_s_R_netAt_0 (L := L) (X := X) F_R_isIn F_R_isStruck K_R_netAt_5 x1 x2) I).trans h)
  · intro pc ls st I2 h1 h2 h3 h
    rcases mC_ok h with ⟨hb, h⟩ | ⟨_, h⟩
    · have e := Nat.eq_of_beq_eq_true hb
      subst e
      obtain ⟨hst, h⟩ := mN_ok h
      subst hst
      obtain ⟨a3, n3, h⟩ := gI_ok h
      obtain ⟨a4, n4, h⟩ := gI_ok h
      refine at_leaf (ls2 := [(112, .ref 207), (0, .int x1), (0, .int x2), (0, .int a3), (0, .int a4)]) h3.1 ⟨Or.inr ⟨_, (h3.2 0 rfl).trans rfl⟩, Or.inr ⟨_, (h3.2 1 rfl).trans rfl⟩, Or.inr ⟨_, (h3.2 2 rfl).trans rfl⟩, Or.inr n3, Or.inr n4, trivial⟩ ?_
      exact s_R_netAt_5 hcs x1 x2 a3 a4 q0 _ _ _ h hq
    cases h
  · intro v I2 _ h
    split at h
    · cases h; exact q0 _ _ hq
    · cases h
theorem w_R_netAt {d : Nat} (hcs : AllS L X d (cs_R_netAt F_R_isIn F_R_isStruck)) : Snd L X (d + 1) 317 3 (W_R_netAt F_R_netAt) := by
  refine ⟨_, z_R_netAt, rfl, fun β args k I r hty hlen h => ?_⟩
  unfold W_R_netAt at h
  split at h
  · rename_i t0 a0 u1 a1 u2 a2
    obtain ⟨hb0, h⟩ := mB_ok h
    have e0 := Nat.eq_of_beq_eq_true hb0
    have g0 : okB 112 a0 = true := e0 ▸ hty.1
    have e20 := one_112 g0
    subst e20
    obtain ⟨v, I1, h1, h2⟩ := bn_some h
    refine ⟨gf_obj (c := 12) (by decide) g0, rfl, some (0, .int v), I1, trivial, ?_, h2⟩
    exact s_R_netAt_0 hcs a1 a2  (Q := fun w I => w = v ∧ I = I1) (fun w I q => by obtain ⟨rfl, rfl⟩ := q; rfl) I v I1 h1 ⟨rfl, rfl⟩
  · cases h
theorem S_R_netAt {d : Nat} (hd : 2 ≤ d) : Snd L X d 317 3 (W_R_netAt F_R_netAt) := by
  obtain ⟨e, rfl⟩ : ∃ e, d = e + 1 := ⟨d - 1, by omega⟩
  exact w_R_netAt ⟨S_R_isIn (by omega), S_R_isStruck (by omega), trivial⟩
set_option maxRecDepth 100000 in
theorem z_R_net : pT[316]? = some (q_R_net, 3, 5, 1, 12) := rfl
def W_R_net (F : Int32 → Int32 → M Int32) : CSem := fun _ args k => match args with
  | [(t0, .ref a0), (_, .int a1), (_, .int a2)] => mB (Nat.beq t0 112) <| bn (F a1 a2) fun v => k (some (0, .int v))
  | _ => fl
def cs_R_net (f_R_isIn : Int32 → Int32 → Int32 → M Int32) (f_R_netAt : Int32 → Int32 → M Int32) : List (Nat × Nat × CSem) := [(195, 4, W_R_isIn f_R_isIn), (317, 3, W_R_netAt f_R_netAt)]
def B_R_net_33 (x1 : Int32) (x2 : Int32) (y : Int32 × Int32) : M ((Int32 × Int32) ⊕ ((Int32))) :=
  (if (10 : Int32) < (y.2 + x1) then
    rt (.inr y.1)
  else
    bn (F_R_netAt y.2 x1) fun v1 =>
    bn (F_R_netAt y.1 x1) fun v2 =>
    (if v2 < v1 then
      rt (.inl (y.2, (y.2 + (1 : Int32))))
    else
      rt (.inl (y.1, (y.2 + (1 : Int32))))))
set_option maxRecDepth 4000 in
theorem e_b_R_net_33 (f_R_isIn : Int32 → Int32 → Int32 → M Int32) (f_R_netAt : Int32 → Int32 → M Int32) (x1 : Int32) (x2 : Int32) (y : Int32 × Int32) : wf (β := (Int32 × Int32) ⊕ ((Int32))) L X q_R_net 1 (cs_R_net f_R_isIn f_R_netAt) [3, 4] [33, 67] (fun pc ls st => mC (Nat.beq pc 33) (mN st <| gI ls 3 fun a3 => gI ls 4 fun a4 => rt (.inl (a3, a4))) (mC (Nat.beq pc 67) (mN st <| gI ls 3 fun a3 => gD ls 4 <| rt (.inr a3)) (fl))) (fun _ => fl) 53 33 [(112, .ref 207), (0, .int x1), (0, .int x2), (0, .int y.1), (0, .int y.2)] [] = ((if (10 : Int32) < (y.2 + x1) then
    rt (.inr y.1)
  else
    bn (f_R_netAt y.2 x1) fun v1 =>
    bn (f_R_netAt y.1 x1) fun v2 =>
    (if v2 < v1 then
      rt (.inl (y.2, (y.2 + (1 : Int32))))
    else
      rt (.inl (y.1, (y.2 + (1 : Int32))))))) := rfl
theorem b_R_net_33 {d : Nat} (hcs : AllS L X d (cs_R_net F_R_isIn F_R_netAt)) (x1 : Int32) (x2 : Int32) {o : Option Value × PH} {Q : ((Int32 × Int32) ⊕ ((Int32))) → MI → Prop} (qb : ∀ y I, Q (.inl y) I → At L X (d + 1) 316 33 [(112, .ref 207), (0, .int x1), (0, .int x2), (0, .int y.1), (0, .int y.2)] [] I o) (qe67 : ∀ y I, Q (.inr y) I → At L X (d + 1) 316 67 [(112, .ref 207), (0, .int x1), (0, .int x2), (0, .int y), (0, dV)] [] I o) (y : Int32 × Int32) (I : MI) (r : (Int32 × Int32) ⊕ ((Int32))) (I1 : MI) (h : B_R_net_33 x1 x2 y I = some (r, I1)) (hq : Q r I1) : At L X (d + 1) 316 33 [(112, .ref 207), (0, .int x1), (0, .int x2), (0, .int y.1), (0, .int y.2)] [] I o := by
  refine wf_ok z_R_net hcs ?_ ?_ _ _ _ _ _ ⟨rfl, trivial, trivial, trivial, trivial, trivial⟩ trivial (unm_refl _ _) ((congrFun (e_b_R_net_33 (L := L) (X := X) F_R_isIn F_R_netAt x1 x2 y) I).trans h)
  · intro pc ls st I2 h1 h2 h3 h
    rcases mC_ok h with ⟨hb, h⟩ | ⟨_, h⟩
    · have e := Nat.eq_of_beq_eq_true hb
      subst e
      obtain ⟨hst, h⟩ := mN_ok h
      subst hst
      obtain ⟨a3, n3, h⟩ := gI_ok h
      obtain ⟨a4, n4, h⟩ := gI_ok h
      refine at_leaf (ls2 := [(112, .ref 207), (0, .int x1), (0, .int x2), (0, .int a3), (0, .int a4)]) h3.1 ⟨Or.inr ⟨_, (h3.2 0 rfl).trans rfl⟩, Or.inr ⟨_, (h3.2 1 rfl).trans rfl⟩, Or.inr ⟨_, (h3.2 2 rfl).trans rfl⟩, Or.inr n3, Or.inr n4, trivial⟩ ?_
      cases h; exact qb _ _ hq
    rcases mC_ok h with ⟨hb, h⟩ | ⟨_, h⟩
    · have e := Nat.eq_of_beq_eq_true hb
      subst e
      obtain ⟨hst, h⟩ := mN_ok h
      subst hst
      obtain ⟨a3, n3, h⟩ := gI_ok h
      obtain ⟨n4, h⟩ := gD_ok h
      refine at_leaf (ls2 := [(112, .ref 207), (0, .int x1), (0, .int x2), (0, .int a3), (0, dV)]) h3.1 ⟨Or.inr ⟨_, (h3.2 0 rfl).trans rfl⟩, Or.inr ⟨_, (h3.2 1 rfl).trans rfl⟩, Or.inr ⟨_, (h3.2 2 rfl).trans rfl⟩, Or.inr n3, Or.inl ⟨rfl, n4⟩, trivial⟩ ?_
      cases h; exact qe67 _ _ hq
    cases h
  · intro v I2 _ h
    cases h
def K_R_net_67 (x1 : Int32) (x2 : Int32) (x3 : Int32) : M (Int32) :=
  (if x2 = 0 then
    bn (F_R_netAt x3 x1) fun v1 =>
    rt v1
  else
    rt x3)
set_option maxRecDepth 4000 in
theorem e_s_R_net_67 (f_R_isIn : Int32 → Int32 → Int32 → M Int32) (f_R_netAt : Int32 → Int32 → M Int32) (x1 : Int32) (x2 : Int32) (x3 : Int32) : wf (β := Int32) L X q_R_net 1 (cs_R_net f_R_isIn f_R_netAt) [] [33, 67] (fun _ _ _ => fl) (fun v => match v with | some (_, .int x) => rt x | _ => fl) 53 67 [(112, .ref 207), (0, .int x1), (0, .int x2), (0, .int x3), (0, dV)] [] = ((if x2 = 0 then
    bn (f_R_netAt x3 x1) fun v1 =>
    rt v1
  else
    rt x3)) := rfl
theorem s_R_net_67 {d : Nat} (hcs : AllS L X d (cs_R_net F_R_isIn F_R_netAt)) (x1 : Int32) (x2 : Int32) (x3 : Int32) {o : Option Value × PH} {Q : (Int32) → MI → Prop} (q0 : ∀ v I, Q v I → o = (some (.int v), HH I)) (I : MI) (r : Int32) (I1 : MI) (h : K_R_net_67 x1 x2 x3 I = some (r, I1)) (hq : Q r I1) : At L X (d + 1) 316 67 [(112, .ref 207), (0, .int x1), (0, .int x2), (0, .int x3), (0, dV)] [] I o := by
  refine wf_ok z_R_net hcs ?_ ?_ _ _ _ _ _ ⟨rfl, trivial, trivial, trivial, trivial, trivial⟩ trivial (unm_refl _ _) ((congrFun (e_s_R_net_67 (L := L) (X := X) F_R_isIn F_R_netAt x1 x2 x3) I).trans h)
  · intro pc ls st I2 h1 h2 h3 h
    cases h
  · intro v I2 _ h
    split at h
    · cases h; exact q0 _ _ hq
    · cases h
def K_R_net_33 (x1 : Int32) (x2 : Int32) (x3 : Int32) (x4 : Int32) : M (Int32) :=
  bn (lp (B_R_net_33 x1 x2) FU (x3, x4)) fun e => K_R_net_67 x1 x2 e
theorem s_R_net_33 {d : Nat} (hcs : AllS L X d (cs_R_net F_R_isIn F_R_netAt)) (x1 : Int32) (x2 : Int32) (x3 : Int32) (x4 : Int32) {o : Option Value × PH} {Q : (Int32) → MI → Prop} (q0 : ∀ v I, Q v I → o = (some (.int v), HH I)) (I : MI) (r : Int32) (I1 : MI) (h : K_R_net_33 x1 x2 x3 x4 I = some (r, I1)) (hq : Q r I1) : At L X (d + 1) 316 33 [(112, .ref 207), (0, .int x1), (0, .int x2), (0, .int x3), (0, .int x4)] [] I o := by
  unfold K_R_net_33 at h
  obtain ⟨e, I2, h1, h2⟩ := bn_some h
  have w0 := fun w => at_lp (body := B_R_net_33 x1 x2) (P := (fun (y : Int32 × Int32) I => At L X (d + 1) 316 33 [(112, .ref 207), (0, .int x1), (0, .int x2), (0, .int y.1), (0, .int y.2)] [] I o)) (Q := (fun (e : (Int32)) I => (K_R_net_67 x1 x2 e) I = some (r, I1))) w FU (x3, x4) I e I2 h1 h2
  refine w0 ?_
  intro y I r2 I3 h hq2
  exact b_R_net_33 hcs x1 x2 (Q := SQ (fun (y : Int32 × Int32) I => At L X (d + 1) 316 33 [(112, .ref 207), (0, .int x1), (0, .int x2), (0, .int y.1), (0, .int y.2)] [] I o) (fun (e : (Int32)) I => (K_R_net_67 x1 x2 e) I = some (r, I1))) (fun _ _ w => w) (fun y I w => s_R_net_67 hcs x1 x2 y q0 _ _ _ w hq) y I r2 I3 h hq2
def F_R_net (x1 : Int32) (x2 : Int32) : M (Int32) :=
  bn (wr 207 0 (0 : Int32)) fun _ =>
  bn (F_R_isIn x1 (1 : Int32) (10 : Int32)) fun v1 =>
  (if v1 = 0 then
    rt (-1 : Int32)
  else
    bn (F_R_isIn x2 (0 : Int32) (1 : Int32)) fun v2 =>
    (if v2 = 0 then
      rt (-1 : Int32)
    else
      K_R_net_33 x1 x2 (0 : Int32) (1 : Int32)))
set_option maxRecDepth 4000 in
theorem e_s_R_net_0 (f_R_isIn : Int32 → Int32 → Int32 → M Int32) (f_R_netAt : Int32 → Int32 → M Int32) (k_33 : Int32 → Int32 → Int32 → Int32 → M (Int32)) (x1 : Int32) (x2 : Int32) : wf (β := Int32) L X q_R_net 1 (cs_R_net f_R_isIn f_R_netAt) [3, 4] [33, 67] (fun pc ls st => mC (Nat.beq pc 33) (mN st <| gI ls 3 fun a3 => gI ls 4 fun a4 => k_33 x1 x2 a3 a4) (fl)) (fun v => match v with | some (_, .int x) => rt x | _ => fl) 53 0 [(112, .ref 207), (0, .int x1), (0, .int x2), (0, dV), (0, dV)] [] = (bn (wr 207 0 (0 : Int32)) fun _ =>
  bn (f_R_isIn x1 (1 : Int32) (10 : Int32)) fun v1 =>
  (if v1 = 0 then
    rt (-1 : Int32)
  else
    bn (f_R_isIn x2 (0 : Int32) (1 : Int32)) fun v2 =>
    (if v2 = 0 then
      rt (-1 : Int32)
    else
      k_33 x1 x2 (0 : Int32) (1 : Int32)))) := rfl
theorem s_R_net_0 {d : Nat} (hcs : AllS L X d (cs_R_net F_R_isIn F_R_netAt)) (x1 : Int32) (x2 : Int32) {o : Option Value × PH} {Q : (Int32) → MI → Prop} (q0 : ∀ v I, Q v I → o = (some (.int v), HH I)) (I : MI) (r : Int32) (I1 : MI) (h : F_R_net x1 x2 I = some (r, I1)) (hq : Q r I1) : At L X (d + 1) 316 0 [(112, .ref 207), (0, .int x1), (0, .int x2), (0, dV), (0, dV)] [] I o := by
  refine wf_ok z_R_net hcs ?_ ?_ _ _ _ _ _ ⟨rfl, trivial, trivial, trivial, trivial, trivial⟩ trivial (unm_refl _ _) ((congrFun (e_s_R_net_0 (L := L) (X := X) F_R_isIn F_R_netAt K_R_net_33 x1 x2) I).trans h)
  · intro pc ls st I2 h1 h2 h3 h
    rcases mC_ok h with ⟨hb, h⟩ | ⟨_, h⟩
    · have e := Nat.eq_of_beq_eq_true hb
      subst e
      obtain ⟨hst, h⟩ := mN_ok h
      subst hst
      obtain ⟨a3, n3, h⟩ := gI_ok h
      obtain ⟨a4, n4, h⟩ := gI_ok h
      refine at_leaf (ls2 := [(112, .ref 207), (0, .int x1), (0, .int x2), (0, .int a3), (0, .int a4)]) h3.1 ⟨Or.inr ⟨_, (h3.2 0 rfl).trans rfl⟩, Or.inr ⟨_, (h3.2 1 rfl).trans rfl⟩, Or.inr ⟨_, (h3.2 2 rfl).trans rfl⟩, Or.inr n3, Or.inr n4, trivial⟩ ?_
      exact s_R_net_33 hcs x1 x2 a3 a4 q0 _ _ _ h hq
    cases h
  · intro v I2 _ h
    split at h
    · cases h; exact q0 _ _ hq
    · cases h
theorem w_R_net {d : Nat} (hcs : AllS L X d (cs_R_net F_R_isIn F_R_netAt)) : Snd L X (d + 1) 316 3 (W_R_net F_R_net) := by
  refine ⟨_, z_R_net, rfl, fun β args k I r hty hlen h => ?_⟩
  unfold W_R_net at h
  split at h
  · rename_i t0 a0 u1 a1 u2 a2
    obtain ⟨hb0, h⟩ := mB_ok h
    have e0 := Nat.eq_of_beq_eq_true hb0
    have g0 : okB 112 a0 = true := e0 ▸ hty.1
    have e20 := one_112 g0
    subst e20
    obtain ⟨v, I1, h1, h2⟩ := bn_some h
    refine ⟨gf_obj (c := 12) (by decide) g0, rfl, some (0, .int v), I1, trivial, ?_, h2⟩
    exact s_R_net_0 hcs a1 a2  (Q := fun w I => w = v ∧ I = I1) (fun w I q => by obtain ⟨rfl, rfl⟩ := q; rfl) I v I1 h1 ⟨rfl, rfl⟩
  · cases h
theorem S_R_net {d : Nat} (hd : 3 ≤ d) : Snd L X d 316 3 (W_R_net F_R_net) := by
  obtain ⟨e, rfl⟩ : ∃ e, d = e + 1 := ⟨d - 1, by omega⟩
  exact w_R_net ⟨S_R_isIn (by omega), S_R_netAt (by omega), trivial⟩
set_option maxRecDepth 100000 in
theorem z_R_notes : pT[306]? = some (q_R_notes, 2, 5, 1, 12) := rfl
def W_R_notes (F : Int32 → M Int32) : CSem := fun _ args k => match args with
  | [(t0, .ref a0), (_, .int a1)] => mB (Nat.beq t0 112) <| bn (F a1) fun v => k (some (0, .int v))
  | _ => fl
def cs_R_notes (f_R_isIn : Int32 → Int32 → Int32 → M Int32) : List (Nat × Nat × CSem) := [(195, 4, W_R_isIn f_R_isIn)]
def K_R_notes_116 (x1 : Int32) (x2 : Int32) (x3 : Int32) (x4 : Int32) : M ((Int32) ⊕ ((Unit) ⊕ Int32)) :=
  (if x1 = (1 : Int32) then
    bn (ld 24 243 x4) fun v1 =>
    bn (ld 24 243 ((((12 : Int32) + x2) - (1 : Int32)) - x4)) fun v2 =>
    (if v1 = v2 then
      rt (.inl (x4 + (1 : Int32)))
    else
      rt (.inr (.inr (0 : Int32))))
  else
    rt (.inl (x4 + (1 : Int32))))
set_option maxRecDepth 4000 in
theorem e_s_R_notes_116 (f_R_isIn : Int32 → Int32 → Int32 → M Int32) (x1 : Int32) (x2 : Int32) (x3 : Int32) (x4 : Int32) : wf (β := (Int32) ⊕ ((Unit) ⊕ Int32)) L X q_R_notes 1 (cs_R_notes f_R_isIn) [4] [76, 116, 153] (fun pc ls st => mC (Nat.beq pc 76) (mN st <| gI ls 4 fun a4 => rt (.inl a4)) (fl)) (fun v => match v with | some (_, .int x) => rt (.inr (.inr x)) | _ => fl) 105 116 [(112, .ref 207), (0, .int x1), (0, .int x2), (0, .int x3), (0, .int x4)] [] = ((if x1 = (1 : Int32) then
    bn (ld 24 243 x4) fun v1 =>
    bn (ld 24 243 ((((12 : Int32) + x2) - (1 : Int32)) - x4)) fun v2 =>
    (if v1 = v2 then
      rt (.inl (x4 + (1 : Int32)))
    else
      rt (.inr (.inr (0 : Int32))))
  else
    rt (.inl (x4 + (1 : Int32))))) := rfl
theorem s_R_notes_116 {d : Nat} (hcs : AllS L X d (cs_R_notes F_R_isIn)) (x1 : Int32) (x2 : Int32) (x3 : Int32) (x4 : Int32) {o : Option Value × PH} {Q : ((Int32) ⊕ ((Unit) ⊕ Int32)) → MI → Prop} (qb : ∀ y I, Q (.inl y) I → At L X (d + 1) 306 76 [(112, .ref 207), (0, .int x1), (0, .int x2), (0, .int x3), (0, .int y)] [] I o) (qe153 : ∀ y I, Q (.inr (.inl y)) I → At L X (d + 1) 306 153 [(0, dV), (0, .int x1), (0, dV), (0, .int x3), (0, dV)] [] I o) (qr : ∀ v I, Q (.inr (.inr v)) I → o = (some (.int v), HH I)) (I : MI) (r : (Int32) ⊕ ((Unit) ⊕ Int32)) (I1 : MI) (h : K_R_notes_116 x1 x2 x3 x4 I = some (r, I1)) (hq : Q r I1) : At L X (d + 1) 306 116 [(112, .ref 207), (0, .int x1), (0, .int x2), (0, .int x3), (0, .int x4)] [] I o := by
  refine wf_ok z_R_notes hcs ?_ ?_ _ _ _ _ _ ⟨rfl, trivial, trivial, trivial, trivial, trivial⟩ trivial (unm_refl _ _) ((congrFun (e_s_R_notes_116 (L := L) (X := X) F_R_isIn x1 x2 x3 x4) I).trans h)
  · intro pc ls st I2 h1 h2 h3 h
    rcases mC_ok h with ⟨hb, h⟩ | ⟨_, h⟩
    · have e := Nat.eq_of_beq_eq_true hb
      subst e
      obtain ⟨hst, h⟩ := mN_ok h
      subst hst
      obtain ⟨a4, n4, h⟩ := gI_ok h
      refine at_leaf (ls2 := [(112, .ref 207), (0, .int x1), (0, .int x2), (0, .int x3), (0, .int a4)]) h3.1 ⟨Or.inr ⟨_, (h3.2 0 rfl).trans rfl⟩, Or.inr ⟨_, (h3.2 1 rfl).trans rfl⟩, Or.inr ⟨_, (h3.2 2 rfl).trans rfl⟩, Or.inr ⟨_, (h3.2 3 rfl).trans rfl⟩, Or.inr n4, trivial⟩ ?_
      cases h; exact qb _ _ hq
    cases h
  · intro v I2 _ h
    split at h
    · cases h; exact qr _ _ hq
    · cases h
def B_R_notes_76 (x1 : Int32) (x2 : Int32) (x3 : Int32) (y : Int32) : M ((Int32) ⊕ ((Unit) ⊕ Int32)) :=
  (if y < x2 then
    (if x1 = 0 then
      bn (ld 24 243 y) fun v1 =>
      bn (ld 24 243 ((12 : Int32) + y)) fun v2 =>
      dvI (26 : Int32) <|
      (if (((v1 - v2) + (26 : Int32)) - ((v1 - v2) + (26 : Int32)) / (26 : Int32) * (26 : Int32)) = x3 then
        K_R_notes_116 x1 x2 x3 y
      else
        rt (.inr (.inr (-1 : Int32))))
    else
      K_R_notes_116 x1 x2 x3 y)
  else
    rt (.inr (.inl ())))
set_option maxRecDepth 4000 in
theorem e_b_R_notes_76 (f_R_isIn : Int32 → Int32 → Int32 → M Int32) (k_116 : Int32 → Int32 → Int32 → Int32 → M ((Int32) ⊕ ((Unit) ⊕ Int32))) (x1 : Int32) (x2 : Int32) (x3 : Int32) (y : Int32) : wf (β := (Int32) ⊕ ((Unit) ⊕ Int32)) L X q_R_notes 1 (cs_R_notes f_R_isIn) [] [76, 116, 153] (fun pc ls st => mC (Nat.beq pc 116) (mN st <| k_116 x1 x2 x3 y) (mC (Nat.beq pc 153) (mN st <| gD ls 0 <| gD ls 2 <| gD ls 4 <| rt (.inr (.inl ()))) (fl))) (fun v => match v with | some (_, .int x) => rt (.inr (.inr x)) | _ => fl) 105 76 [(112, .ref 207), (0, .int x1), (0, .int x2), (0, .int x3), (0, .int y)] [] = ((if y < x2 then
    (if x1 = 0 then
      bn (ld 24 243 y) fun v1 =>
      bn (ld 24 243 ((12 : Int32) + y)) fun v2 =>
      dvI (26 : Int32) <|
      (if (((v1 - v2) + (26 : Int32)) - ((v1 - v2) + (26 : Int32)) / (26 : Int32) * (26 : Int32)) = x3 then
        k_116 x1 x2 x3 y
      else
        rt (.inr (.inr (-1 : Int32))))
    else
      k_116 x1 x2 x3 y)
  else
    rt (.inr (.inl ())))) := rfl
theorem b_R_notes_76 {d : Nat} (hcs : AllS L X d (cs_R_notes F_R_isIn)) (x1 : Int32) (x2 : Int32) (x3 : Int32) {o : Option Value × PH} {Q : ((Int32) ⊕ ((Unit) ⊕ Int32)) → MI → Prop} (qb : ∀ y I, Q (.inl y) I → At L X (d + 1) 306 76 [(112, .ref 207), (0, .int x1), (0, .int x2), (0, .int x3), (0, .int y)] [] I o) (qe153 : ∀ y I, Q (.inr (.inl y)) I → At L X (d + 1) 306 153 [(0, dV), (0, .int x1), (0, dV), (0, .int x3), (0, dV)] [] I o) (qr : ∀ v I, Q (.inr (.inr v)) I → o = (some (.int v), HH I)) (y : Int32) (I : MI) (r : (Int32) ⊕ ((Unit) ⊕ Int32)) (I1 : MI) (h : B_R_notes_76 x1 x2 x3 y I = some (r, I1)) (hq : Q r I1) : At L X (d + 1) 306 76 [(112, .ref 207), (0, .int x1), (0, .int x2), (0, .int x3), (0, .int y)] [] I o := by
  refine wf_ok z_R_notes hcs ?_ ?_ _ _ _ _ _ ⟨rfl, trivial, trivial, trivial, trivial, trivial⟩ trivial (unm_refl _ _) ((congrFun (e_b_R_notes_76 (L := L) (X := X) F_R_isIn K_R_notes_116 x1 x2 x3 y) I).trans h)
  · intro pc ls st I2 h1 h2 h3 h
    rcases mC_ok h with ⟨hb, h⟩ | ⟨_, h⟩
    · have e := Nat.eq_of_beq_eq_true hb
      subst e
      obtain ⟨hst, h⟩ := mN_ok h
      subst hst
      refine at_leaf (ls2 := [(112, .ref 207), (0, .int x1), (0, .int x2), (0, .int x3), (0, .int y)]) h3.1 ⟨Or.inr ⟨_, (h3.2 0 rfl).trans rfl⟩, Or.inr ⟨_, (h3.2 1 rfl).trans rfl⟩, Or.inr ⟨_, (h3.2 2 rfl).trans rfl⟩, Or.inr ⟨_, (h3.2 3 rfl).trans rfl⟩, Or.inr ⟨_, (h3.2 4 rfl).trans rfl⟩, trivial⟩ ?_
      exact s_R_notes_116 hcs x1 x2 x3 y qb qe153 qr _ _ _ h hq
    rcases mC_ok h with ⟨hb, h⟩ | ⟨_, h⟩
    · have e := Nat.eq_of_beq_eq_true hb
      subst e
      obtain ⟨hst, h⟩ := mN_ok h
      subst hst
      obtain ⟨n0, h⟩ := gD_ok h
      obtain ⟨n2, h⟩ := gD_ok h
      obtain ⟨n4, h⟩ := gD_ok h
      refine at_leaf (ls2 := [(0, dV), (0, .int x1), (0, dV), (0, .int x3), (0, dV)]) h3.1 ⟨Or.inl ⟨rfl, n0⟩, Or.inr ⟨_, (h3.2 1 rfl).trans rfl⟩, Or.inl ⟨rfl, n2⟩, Or.inr ⟨_, (h3.2 3 rfl).trans rfl⟩, Or.inl ⟨rfl, n4⟩, trivial⟩ ?_
      cases h; exact qe153 _ _ hq
    cases h
  · intro v I2 _ h
    split at h
    · cases h; exact qr _ _ hq
    · cases h
def K_R_notes_153 (x1 : Int32) (x3 : Int32) : M (Int32) :=
  (if x1 = 0 then
    rt x3
  else
    rt (1 : Int32))
set_option maxRecDepth 4000 in
theorem e_s_R_notes_153 (f_R_isIn : Int32 → Int32 → Int32 → M Int32) (x1 : Int32) (x3 : Int32) : wf (β := Int32) L X q_R_notes 1 (cs_R_notes f_R_isIn) [] [76, 116, 153] (fun _ _ _ => fl) (fun v => match v with | some (_, .int x) => rt x | _ => fl) 105 153 [(0, dV), (0, .int x1), (0, dV), (0, .int x3), (0, dV)] [] = ((if x1 = 0 then
    rt x3
  else
    rt (1 : Int32))) := rfl
theorem s_R_notes_153 {d : Nat} (hcs : AllS L X d (cs_R_notes F_R_isIn)) (x1 : Int32) (x3 : Int32) {o : Option Value × PH} {Q : (Int32) → MI → Prop} (q0 : ∀ v I, Q v I → o = (some (.int v), HH I)) (I : MI) (r : Int32) (I1 : MI) (h : K_R_notes_153 x1 x3 I = some (r, I1)) (hq : Q r I1) : At L X (d + 1) 306 153 [(0, dV), (0, .int x1), (0, dV), (0, .int x3), (0, dV)] [] I o := by
  refine wf_ok z_R_notes hcs ?_ ?_ _ _ _ _ _ ⟨trivial, trivial, trivial, trivial, trivial, trivial⟩ trivial (unm_refl _ _) ((congrFun (e_s_R_notes_153 (L := L) (X := X) F_R_isIn x1 x3) I).trans h)
  · intro pc ls st I2 h1 h2 h3 h
    cases h
  · intro v I2 _ h
    split at h
    · cases h; exact q0 _ _ hq
    · cases h
def K_R_notes_76 (x1 : Int32) (x2 : Int32) (x3 : Int32) (x4 : Int32) : M (Int32) :=
  bn (lp (B_R_notes_76 x1 x2 x3) FU x4) fun e => match e with
  | .inl e => K_R_notes_153 x1 x3
  | .inr e => rt e
theorem s_R_notes_76 {d : Nat} (hcs : AllS L X d (cs_R_notes F_R_isIn)) (x1 : Int32) (x2 : Int32) (x3 : Int32) (x4 : Int32) {o : Option Value × PH} {Q : (Int32) → MI → Prop} (q0 : ∀ v I, Q v I → o = (some (.int v), HH I)) (I : MI) (r : Int32) (I1 : MI) (h : K_R_notes_76 x1 x2 x3 x4 I = some (r, I1)) (hq : Q r I1) : At L X (d + 1) 306 76 [(112, .ref 207), (0, .int x1), (0, .int x2), (0, .int x3), (0, .int x4)] [] I o := by
  unfold K_R_notes_76 at h
  obtain ⟨e, I2, h1, h2⟩ := bn_some h
  have w0 := fun w => at_lp (body := B_R_notes_76 x1 x2 x3) (P := (fun (y : Int32) I => At L X (d + 1) 306 76 [(112, .ref 207), (0, .int x1), (0, .int x2), (0, .int x3), (0, .int y)] [] I o)) (Q := (fun (e : (Unit) ⊕ Int32) I => (match e with | .inl e => K_R_notes_153 x1 x3 | .inr e => rt e : M (Int32)) I = some (r, I1))) w FU x4 I e I2 h1 h2
  refine w0 ?_
  intro y I r2 I3 h hq2
  exact b_R_notes_76 hcs x1 x2 x3 (Q := SQ (fun (y : Int32) I => At L X (d + 1) 306 76 [(112, .ref 207), (0, .int x1), (0, .int x2), (0, .int x3), (0, .int y)] [] I o) (fun (e : (Unit) ⊕ Int32) I => (match e with | .inl e => K_R_notes_153 x1 x3 | .inr e => rt e : M (Int32)) I = some (r, I1))) (fun _ _ w => w) (fun y I w => s_R_notes_153 hcs x1 x3 q0 _ _ _ w hq) (fun v I w => by cases w; exact q0 _ _ hq) y I r2 I3 h hq2
def F_R_notes (x1 : Int32) : M (Int32) :=
  bn (wr 207 0 (0 : Int32)) fun _ =>
  bn (ld 2 242 (0 : Int32)) fun v1 =>
  bn (F_R_isIn x1 (0 : Int32) (1 : Int32)) fun v2 =>
  (if v2 = 0 then
    rt (-1 : Int32)
  else
    bn (ld 2 242 (1 : Int32)) fun v3 =>
    (if v1 = v3 then
      (if v1 = 0 then
        K_R_notes_76 x1 v1 (0 : Int32) (0 : Int32)
      else
        bn (ld 24 243 (0 : Int32)) fun v4 =>
        bn (ld 24 243 (12 : Int32)) fun v5 =>
        dvI (26 : Int32) <|
        K_R_notes_76 x1 v1 (((v4 - v5) + (26 : Int32)) - ((v4 - v5) + (26 : Int32)) / (26 : Int32) * (26 : Int32)) (0 : Int32))
    else
      (if x1 = 0 then
        rt (-1 : Int32)
      else
        rt (0 : Int32))))
set_option maxRecDepth 4000 in
theorem e_s_R_notes_0 (f_R_isIn : Int32 → Int32 → Int32 → M Int32) (k_76 : Int32 → Int32 → Int32 → Int32 → M (Int32)) (x1 : Int32) : wf (β := Int32) L X q_R_notes 1 (cs_R_notes f_R_isIn) [2, 3, 4] [76, 116, 153] (fun pc ls st => mC (Nat.beq pc 76) (mN st <| gI ls 2 fun a2 => gI ls 3 fun a3 => gI ls 4 fun a4 => k_76 x1 a2 a3 a4) (fl)) (fun v => match v with | some (_, .int x) => rt x | _ => fl) 105 0 [(112, .ref 207), (0, .int x1), (0, dV), (0, dV), (0, dV)] [] = (bn (wr 207 0 (0 : Int32)) fun _ =>
  bn (ld 2 242 (0 : Int32)) fun v1 =>
  bn (f_R_isIn x1 (0 : Int32) (1 : Int32)) fun v2 =>
  (if v2 = 0 then
    rt (-1 : Int32)
  else
    bn (ld 2 242 (1 : Int32)) fun v3 =>
    (if v1 = v3 then
      (if v1 = 0 then
        k_76 x1 v1 (0 : Int32) (0 : Int32)
      else
        bn (ld 24 243 (0 : Int32)) fun v4 =>
        bn (ld 24 243 (12 : Int32)) fun v5 =>
        dvI (26 : Int32) <|
        k_76 x1 v1 (((v4 - v5) + (26 : Int32)) - ((v4 - v5) + (26 : Int32)) / (26 : Int32) * (26 : Int32)) (0 : Int32))
    else
      (if x1 = 0 then
        rt (-1 : Int32)
      else
        rt (0 : Int32))))) := rfl
theorem s_R_notes_0 {d : Nat} (hcs : AllS L X d (cs_R_notes F_R_isIn)) (x1 : Int32) {o : Option Value × PH} {Q : (Int32) → MI → Prop} (q0 : ∀ v I, Q v I → o = (some (.int v), HH I)) (I : MI) (r : Int32) (I1 : MI) (h : F_R_notes x1 I = some (r, I1)) (hq : Q r I1) : At L X (d + 1) 306 0 [(112, .ref 207), (0, .int x1), (0, dV), (0, dV), (0, dV)] [] I o := by
  refine wf_ok z_R_notes hcs ?_ ?_ _ _ _ _ _ ⟨rfl, trivial, trivial, trivial, trivial, trivial⟩ trivial (unm_refl _ _) ((congrFun (e_s_R_notes_0 (L := L) (X := X) F_R_isIn K_R_notes_76 x1) I).trans h)
  · intro pc ls st I2 h1 h2 h3 h
    rcases mC_ok h with ⟨hb, h⟩ | ⟨_, h⟩
    · have e := Nat.eq_of_beq_eq_true hb
      subst e
      obtain ⟨hst, h⟩ := mN_ok h
      subst hst
      obtain ⟨a2, n2, h⟩ := gI_ok h
      obtain ⟨a3, n3, h⟩ := gI_ok h
      obtain ⟨a4, n4, h⟩ := gI_ok h
      refine at_leaf (ls2 := [(112, .ref 207), (0, .int x1), (0, .int a2), (0, .int a3), (0, .int a4)]) h3.1 ⟨Or.inr ⟨_, (h3.2 0 rfl).trans rfl⟩, Or.inr ⟨_, (h3.2 1 rfl).trans rfl⟩, Or.inr n2, Or.inr n3, Or.inr n4, trivial⟩ ?_
      exact s_R_notes_76 hcs x1 a2 a3 a4 q0 _ _ _ h hq
    cases h
  · intro v I2 _ h
    split at h
    · cases h; exact q0 _ _ hq
    · cases h
theorem w_R_notes {d : Nat} (hcs : AllS L X d (cs_R_notes F_R_isIn)) : Snd L X (d + 1) 306 2 (W_R_notes F_R_notes) := by
  refine ⟨_, z_R_notes, rfl, fun β args k I r hty hlen h => ?_⟩
  unfold W_R_notes at h
  split at h
  · rename_i t0 a0 u1 a1
    obtain ⟨hb0, h⟩ := mB_ok h
    have e0 := Nat.eq_of_beq_eq_true hb0
    have g0 : okB 112 a0 = true := e0 ▸ hty.1
    have e20 := one_112 g0
    subst e20
    obtain ⟨v, I1, h1, h2⟩ := bn_some h
    refine ⟨gf_obj (c := 12) (by decide) g0, rfl, some (0, .int v), I1, trivial, ?_, h2⟩
    exact s_R_notes_0 hcs a1  (Q := fun w I => w = v ∧ I = I1) (fun w I q => by obtain ⟨rfl, rfl⟩ := q; rfl) I v I1 h1 ⟨rfl, rfl⟩
  · cases h
theorem S_R_notes {d : Nat} (hd : 2 ≤ d) : Snd L X d 306 2 (W_R_notes F_R_notes) := by
  obtain ⟨e, rfl⟩ : ∃ e, d = e + 1 := ⟨d - 1, by omega⟩
  exact w_R_notes ⟨S_R_isIn (by omega), trivial⟩
set_option maxRecDepth 100000 in
theorem z_R_of : pT[272]? = some (q_R_of, 3, 3, 1, 12) := rfl
def W_R_of (F : Int32 → Int32 → M Int32) : CSem := fun _ args k => match args with
  | [(t0, .ref a0), (_, .int a1), (_, .int a2)] => mB (Nat.beq t0 112) <| bn (F a1 a2) fun v => k (some (0, .int v))
  | _ => fl
def cs_R_of (f_R_costsOf : Int32 → M Int32) (f_R_gainsOf : Int32 → M Int32) (f_R_isAlias : Int32 → M Int32) (f_R_seenOf : Int32 → M Int32) : List (Nat × Nat × CSem) := [(267, 2, W_R_costsOf f_R_costsOf), (266, 2, W_R_gainsOf f_R_gainsOf), (201, 2, W_R_isAlias f_R_isAlias), (255, 2, W_R_seenOf f_R_seenOf)]
def F_R_of (x1 : Int32) (x2 : Int32) : M (Int32) :=
  bn (wr 207 0 (0 : Int32)) fun _ =>
  bn (F_R_isAlias x1) fun v1 =>
  (if v1 = 0 then
    rt (-1 : Int32)
  else
    (if x2 = 0 then
      bn (ld 18 212 x1) fun v11 =>
      rt v11
    else
      (if x2 = (1 : Int32) then
        bn (ld 18 213 x1) fun v10 =>
        rt v10
      else
        (if x2 = (2 : Int32) then
          bn (ld 18 214 x1) fun v9 =>
          rt v9
        else
          (if x2 = (3 : Int32) then
            bn (ld 95 208 ((23 : Int32) + x1)) fun v8 =>
            rt v8
          else
            (if x2 = (4 : Int32) then
              bn (ld 95 208 ((41 : Int32) + x1)) fun v7 =>
              rt v7
            else
              (if x2 = (5 : Int32) then
                bn (ld 95 208 ((59 : Int32) + x1)) fun v6 =>
                rt v6
              else
                (if x2 = (6 : Int32) then
                  bn (ld 95 208 ((77 : Int32) + x1)) fun v5 =>
                  rt v5
                else
                  (if x2 = (7 : Int32) then
                    bn (F_R_seenOf x1) fun v4 =>
                    rt v4
                  else
                    (if x2 = (8 : Int32) then
                      bn (F_R_costsOf x1) fun v3 =>
                      rt v3
                    else
                      (if x2 = (9 : Int32) then
                        bn (F_R_gainsOf x1) fun v2 =>
                        rt v2
                      else
                        rt (-1 : Int32))))))))))))
set_option maxRecDepth 4000 in
theorem e_s_R_of_0 (f_R_costsOf : Int32 → M Int32) (f_R_gainsOf : Int32 → M Int32) (f_R_isAlias : Int32 → M Int32) (f_R_seenOf : Int32 → M Int32) (x1 : Int32) (x2 : Int32) : wf (β := Int32) L X q_R_of 1 (cs_R_of f_R_costsOf f_R_gainsOf f_R_isAlias f_R_seenOf) [] [] (fun _ _ _ => fl) (fun v => match v with | some (_, .int x) => rt x | _ => fl) 100 0 [(112, .ref 207), (0, .int x1), (0, .int x2)] [] = (bn (wr 207 0 (0 : Int32)) fun _ =>
  bn (f_R_isAlias x1) fun v1 =>
  (if v1 = 0 then
    rt (-1 : Int32)
  else
    (if x2 = 0 then
      bn (ld 18 212 x1) fun v11 =>
      rt v11
    else
      (if x2 = (1 : Int32) then
        bn (ld 18 213 x1) fun v10 =>
        rt v10
      else
        (if x2 = (2 : Int32) then
          bn (ld 18 214 x1) fun v9 =>
          rt v9
        else
          (if x2 = (3 : Int32) then
            bn (ld 95 208 ((23 : Int32) + x1)) fun v8 =>
            rt v8
          else
            (if x2 = (4 : Int32) then
              bn (ld 95 208 ((41 : Int32) + x1)) fun v7 =>
              rt v7
            else
              (if x2 = (5 : Int32) then
                bn (ld 95 208 ((59 : Int32) + x1)) fun v6 =>
                rt v6
              else
                (if x2 = (6 : Int32) then
                  bn (ld 95 208 ((77 : Int32) + x1)) fun v5 =>
                  rt v5
                else
                  (if x2 = (7 : Int32) then
                    bn (f_R_seenOf x1) fun v4 =>
                    rt v4
                  else
                    (if x2 = (8 : Int32) then
                      bn (f_R_costsOf x1) fun v3 =>
                      rt v3
                    else
                      (if x2 = (9 : Int32) then
                        bn (f_R_gainsOf x1) fun v2 =>
                        rt v2
                      else
                        rt (-1 : Int32))))))))))))) := rfl
theorem s_R_of_0 {d : Nat} (hcs : AllS L X d (cs_R_of F_R_costsOf F_R_gainsOf F_R_isAlias F_R_seenOf)) (x1 : Int32) (x2 : Int32) {o : Option Value × PH} {Q : (Int32) → MI → Prop} (q0 : ∀ v I, Q v I → o = (some (.int v), HH I)) (I : MI) (r : Int32) (I1 : MI) (h : F_R_of x1 x2 I = some (r, I1)) (hq : Q r I1) : At L X (d + 1) 272 0 [(112, .ref 207), (0, .int x1), (0, .int x2)] [] I o := by
  refine wf_ok z_R_of hcs ?_ ?_ _ _ _ _ _ ⟨rfl, trivial, trivial, trivial⟩ trivial (unm_refl _ _) ((congrFun (e_s_R_of_0 (L := L) (X := X) F_R_costsOf F_R_gainsOf F_R_isAlias F_R_seenOf x1 x2) I).trans h)
  · intro pc ls st I2 h1 h2 h3 h
    cases h
  · intro v I2 _ h
    split at h
    · cases h; exact q0 _ _ hq
    · cases h
theorem w_R_of {d : Nat} (hcs : AllS L X d (cs_R_of F_R_costsOf F_R_gainsOf F_R_isAlias F_R_seenOf)) : Snd L X (d + 1) 272 3 (W_R_of F_R_of) := by
  refine ⟨_, z_R_of, rfl, fun β args k I r hty hlen h => ?_⟩
  unfold W_R_of at h
  split at h
  · rename_i t0 a0 u1 a1 u2 a2
    obtain ⟨hb0, h⟩ := mB_ok h
    have e0 := Nat.eq_of_beq_eq_true hb0
    have g0 : okB 112 a0 = true := e0 ▸ hty.1
    have e20 := one_112 g0
    subst e20
    obtain ⟨v, I1, h1, h2⟩ := bn_some h
    refine ⟨gf_obj (c := 12) (by decide) g0, rfl, some (0, .int v), I1, trivial, ?_, h2⟩
    exact s_R_of_0 hcs a1 a2  (Q := fun w I => w = v ∧ I = I1) (fun w I q => by obtain ⟨rfl, rfl⟩ := q; rfl) I v I1 h1 ⟨rfl, rfl⟩
  · cases h
theorem S_R_of {d : Nat} (hd : 6 ≤ d) : Snd L X d 272 3 (W_R_of F_R_of) := by
  obtain ⟨e, rfl⟩ : ∃ e, d = e + 1 := ⟨d - 1, by omega⟩
  exact w_R_of ⟨S_R_costsOf (by omega), S_R_gainsOf (by omega), S_R_isAlias (by omega), S_R_seenOf (by omega), trivial⟩
set_option maxRecDepth 100000 in
theorem z_R_pair : pT[287]? = some (q_R_pair, 4, 5, 1, 12) := rfl
def W_R_pair (F : Int32 → Int32 → Int32 → M Int32) : CSem := fun _ args k => match args with
  | [(t0, .ref a0), (_, .int a1), (_, .int a2), (_, .int a3)] => mB (Nat.beq t0 112) <| bn (F a1 a2 a3) fun v => k (some (0, .int v))
  | _ => fl
def cs_R_pair (f_R_isIn : Int32 → Int32 → Int32 → M Int32) : List (Nat × Nat × CSem) := [(195, 4, W_R_isIn f_R_isIn)]
def B_R_pair_18 (y : Int32) : M ((Int32) ⊕ (Int32)) :=
  (if y < (10 : Int32) then
    bn (sr 10 235 y (0 : Int32)) fun _ =>
    bn (sr 10 236 y (0 : Int32)) fun _ =>
    rt (.inl (y + (1 : Int32)))
  else
    rt (.inr (0 : Int32)))
set_option maxRecDepth 4000 in
theorem e_b_R_pair_18 (f_R_isIn : Int32 → Int32 → Int32 → M Int32) (y : Int32) : wf (β := (Int32) ⊕ (Int32)) L X q_R_pair 1 (cs_R_pair f_R_isIn) [4] [18] (fun pc ls st => mC (Nat.beq pc 18) (mN st <| gD ls 1 <| gD ls 2 <| gD ls 3 <| gI ls 4 fun a4 => rt (.inl a4)) (fl)) (fun v => match v with | some (_, .int x) => rt (.inr x) | _ => fl) 114 18 [(112, .ref 207), (0, dV), (0, dV), (0, dV), (0, .int y)] [] = ((if y < (10 : Int32) then
    bn (sr 10 235 y (0 : Int32)) fun _ =>
    bn (sr 10 236 y (0 : Int32)) fun _ =>
    rt (.inl (y + (1 : Int32)))
  else
    rt (.inr (0 : Int32)))) := rfl
theorem b_R_pair_18 {d : Nat} (hcs : AllS L X d (cs_R_pair F_R_isIn)) {o : Option Value × PH} {Q : ((Int32) ⊕ (Int32)) → MI → Prop} (qb : ∀ y I, Q (.inl y) I → At L X (d + 1) 287 18 [(112, .ref 207), (0, dV), (0, dV), (0, dV), (0, .int y)] [] I o) (qr : ∀ v I, Q (.inr v) I → o = (some (.int v), HH I)) (y : Int32) (I : MI) (r : (Int32) ⊕ (Int32)) (I1 : MI) (h : B_R_pair_18 y I = some (r, I1)) (hq : Q r I1) : At L X (d + 1) 287 18 [(112, .ref 207), (0, dV), (0, dV), (0, dV), (0, .int y)] [] I o := by
  refine wf_ok z_R_pair hcs ?_ ?_ _ _ _ _ _ ⟨rfl, trivial, trivial, trivial, trivial, trivial⟩ trivial (unm_refl _ _) ((congrFun (e_b_R_pair_18 (L := L) (X := X) F_R_isIn y) I).trans h)
  · intro pc ls st I2 h1 h2 h3 h
    rcases mC_ok h with ⟨hb, h⟩ | ⟨_, h⟩
    · have e := Nat.eq_of_beq_eq_true hb
      subst e
      obtain ⟨hst, h⟩ := mN_ok h
      subst hst
      obtain ⟨n1, h⟩ := gD_ok h
      obtain ⟨n2, h⟩ := gD_ok h
      obtain ⟨n3, h⟩ := gD_ok h
      obtain ⟨a4, n4, h⟩ := gI_ok h
      refine at_leaf (ls2 := [(112, .ref 207), (0, dV), (0, dV), (0, dV), (0, .int a4)]) h3.1 ⟨Or.inr ⟨_, (h3.2 0 rfl).trans rfl⟩, Or.inl ⟨rfl, n1⟩, Or.inl ⟨rfl, n2⟩, Or.inl ⟨rfl, n3⟩, Or.inr n4, trivial⟩ ?_
      cases h; exact qb _ _ hq
    cases h
  · intro v I2 _ h
    split at h
    · cases h; exact qr _ _ hq
    · cases h
def K_R_pair_18 (x4 : Int32) : M (Int32) :=
  lp (B_R_pair_18) FU x4
theorem s_R_pair_18 {d : Nat} (hcs : AllS L X d (cs_R_pair F_R_isIn)) (x4 : Int32) {o : Option Value × PH} {Q : (Int32) → MI → Prop} (q0 : ∀ v I, Q v I → o = (some (.int v), HH I)) (I : MI) (r : Int32) (I1 : MI) (h : K_R_pair_18 x4 I = some (r, I1)) (hq : Q r I1) : At L X (d + 1) 287 18 [(112, .ref 207), (0, dV), (0, dV), (0, dV), (0, .int x4)] [] I o := by
  unfold K_R_pair_18 at h
  have w0 := fun w => at_lp (body := B_R_pair_18) (P := (fun (y : Int32) I => At L X (d + 1) 287 18 [(112, .ref 207), (0, dV), (0, dV), (0, dV), (0, .int y)] [] I o)) (Q := (fun (e : Int32) I => Q e I)) w FU x4 I r I1 h hq
  refine w0 ?_
  intro y I r I1 h hq
  exact b_R_pair_18 hcs (Q := SQ (fun (y : Int32) I => At L X (d + 1) 287 18 [(112, .ref 207), (0, dV), (0, dV), (0, dV), (0, .int y)] [] I o) (fun (e : Int32) I => Q e I)) (fun _ _ w => w) q0 y I r I1 h hq
def F_R_pair (x1 : Int32) (x2 : Int32) (x3 : Int32) : M (Int32) :=
  bn (wr 207 0 (0 : Int32)) fun _ =>
  (if x1 = (-1 : Int32) then
    bn (wr 207 49 (0 : Int32)) fun _ =>
    K_R_pair_18 (0 : Int32)
  else
    bn (F_R_isIn x1 (0 : Int32) (9 : Int32)) fun v1 =>
    (if v1 = 0 then
      rt (-1 : Int32)
    else
      bn (F_R_isIn x2 (0 : Int32) (9 : Int32)) fun v2 =>
      (if v2 = 0 then
        rt (-1 : Int32)
      else
        (if x1 = x2 then
          rt (-1 : Int32)
        else
          bn (rd 207 49) fun v3 =>
          (if v3 = (12 : Int32) then
            rt (-1 : Int32)
          else
            (if x3 = 0 then
              bn (ld 10 236 x1) fun v4 =>
              bn (sr 10 236 x1 (v4 ||| ((1 : Int32) <<< (x2 &&& 31)))) fun _ =>
              bn (ld 10 236 x2) fun v5 =>
              bn (sr 10 236 x2 (v5 ||| ((1 : Int32) <<< (x1 &&& 31)))) fun _ =>
              bn (rd 207 49) fun v6 =>
              bn (wr 207 49 (v6 + (1 : Int32))) fun _ =>
              bn (rd 207 49) fun v7 =>
              rt v7
            else
              bn (ld 10 235 x1) fun v8 =>
              bn (sr 10 235 x1 (v8 ||| ((1 : Int32) <<< (x2 &&& 31)))) fun _ =>
              bn (ld 10 235 x2) fun v9 =>
              bn (sr 10 235 x2 (v9 ||| ((1 : Int32) <<< (x1 &&& 31)))) fun _ =>
              bn (rd 207 49) fun v10 =>
              bn (wr 207 49 (v10 + (1 : Int32))) fun _ =>
              bn (rd 207 49) fun v11 =>
              rt v11))))))
set_option maxRecDepth 4000 in
theorem e_s_R_pair_0 (f_R_isIn : Int32 → Int32 → Int32 → M Int32) (k_18 : Int32 → M (Int32)) (x1 : Int32) (x2 : Int32) (x3 : Int32) : wf (β := Int32) L X q_R_pair 1 (cs_R_pair f_R_isIn) [4] [18] (fun pc ls st => mC (Nat.beq pc 18) (mN st <| gD ls 1 <| gD ls 2 <| gD ls 3 <| gI ls 4 fun a4 => k_18 a4) (fl)) (fun v => match v with | some (_, .int x) => rt x | _ => fl) 114 0 [(112, .ref 207), (0, .int x1), (0, .int x2), (0, .int x3), (0, dV)] [] = (bn (wr 207 0 (0 : Int32)) fun _ =>
  (if x1 = (-1 : Int32) then
    bn (wr 207 49 (0 : Int32)) fun _ =>
    k_18 (0 : Int32)
  else
    bn (f_R_isIn x1 (0 : Int32) (9 : Int32)) fun v1 =>
    (if v1 = 0 then
      rt (-1 : Int32)
    else
      bn (f_R_isIn x2 (0 : Int32) (9 : Int32)) fun v2 =>
      (if v2 = 0 then
        rt (-1 : Int32)
      else
        (if x1 = x2 then
          rt (-1 : Int32)
        else
          bn (rd 207 49) fun v3 =>
          (if v3 = (12 : Int32) then
            rt (-1 : Int32)
          else
            (if x3 = 0 then
              bn (ld 10 236 x1) fun v4 =>
              bn (sr 10 236 x1 (v4 ||| ((1 : Int32) <<< (x2 &&& 31)))) fun _ =>
              bn (ld 10 236 x2) fun v5 =>
              bn (sr 10 236 x2 (v5 ||| ((1 : Int32) <<< (x1 &&& 31)))) fun _ =>
              bn (rd 207 49) fun v6 =>
              bn (wr 207 49 (v6 + (1 : Int32))) fun _ =>
              bn (rd 207 49) fun v7 =>
              rt v7
            else
              bn (ld 10 235 x1) fun v8 =>
              bn (sr 10 235 x1 (v8 ||| ((1 : Int32) <<< (x2 &&& 31)))) fun _ =>
              bn (ld 10 235 x2) fun v9 =>
              bn (sr 10 235 x2 (v9 ||| ((1 : Int32) <<< (x1 &&& 31)))) fun _ =>
              bn (rd 207 49) fun v10 =>
              bn (wr 207 49 (v10 + (1 : Int32))) fun _ =>
              bn (rd 207 49) fun v11 =>
              rt v11))))))) := rfl
theorem s_R_pair_0 {d : Nat} (hcs : AllS L X d (cs_R_pair F_R_isIn)) (x1 : Int32) (x2 : Int32) (x3 : Int32) {o : Option Value × PH} {Q : (Int32) → MI → Prop} (q0 : ∀ v I, Q v I → o = (some (.int v), HH I)) (I : MI) (r : Int32) (I1 : MI) (h : F_R_pair x1 x2 x3 I = some (r, I1)) (hq : Q r I1) : At L X (d + 1) 287 0 [(112, .ref 207), (0, .int x1), (0, .int x2), (0, .int x3), (0, dV)] [] I o := by
  refine wf_ok z_R_pair hcs ?_ ?_ _ _ _ _ _ ⟨rfl, trivial, trivial, trivial, trivial, trivial⟩ trivial (unm_refl _ _) ((congrFun (e_s_R_pair_0 (L := L) (X := X) F_R_isIn K_R_pair_18 x1 x2 x3) I).trans h)
  · intro pc ls st I2 h1 h2 h3 h
    rcases mC_ok h with ⟨hb, h⟩ | ⟨_, h⟩
    · have e := Nat.eq_of_beq_eq_true hb
      subst e
      obtain ⟨hst, h⟩ := mN_ok h
      subst hst
      obtain ⟨n1, h⟩ := gD_ok h
      obtain ⟨n2, h⟩ := gD_ok h
      obtain ⟨n3, h⟩ := gD_ok h
      obtain ⟨a4, n4, h⟩ := gI_ok h
      refine at_leaf (ls2 := [(112, .ref 207), (0, dV), (0, dV), (0, dV), (0, .int a4)]) h3.1 ⟨Or.inr ⟨_, (h3.2 0 rfl).trans rfl⟩, Or.inl ⟨rfl, n1⟩, Or.inl ⟨rfl, n2⟩, Or.inl ⟨rfl, n3⟩, Or.inr n4, trivial⟩ ?_
      exact s_R_pair_18 hcs a4 q0 _ _ _ h hq
    cases h
  · intro v I2 _ h
    split at h
    · cases h; exact q0 _ _ hq
    · cases h
theorem w_R_pair {d : Nat} (hcs : AllS L X d (cs_R_pair F_R_isIn)) : Snd L X (d + 1) 287 4 (W_R_pair F_R_pair) := by
  refine ⟨_, z_R_pair, rfl, fun β args k I r hty hlen h => ?_⟩
  unfold W_R_pair at h
  split at h
  · rename_i t0 a0 u1 a1 u2 a2 u3 a3
    obtain ⟨hb0, h⟩ := mB_ok h
    have e0 := Nat.eq_of_beq_eq_true hb0
    have g0 : okB 112 a0 = true := e0 ▸ hty.1
    have e20 := one_112 g0
    subst e20
    obtain ⟨v, I1, h1, h2⟩ := bn_some h
    refine ⟨gf_obj (c := 12) (by decide) g0, rfl, some (0, .int v), I1, trivial, ?_, h2⟩
    exact s_R_pair_0 hcs a1 a2 a3  (Q := fun w I => w = v ∧ I = I1) (fun w I q => by obtain ⟨rfl, rfl⟩ := q; rfl) I v I1 h1 ⟨rfl, rfl⟩
  · cases h
theorem S_R_pair {d : Nat} (hd : 2 ≤ d) : Snd L X d 287 4 (W_R_pair F_R_pair) := by
  obtain ⟨e, rfl⟩ : ∃ e, d = e + 1 := ⟨d - 1, by omega⟩
  exact w_R_pair ⟨S_R_isIn (by omega), trivial⟩
set_option maxRecDepth 100000 in
theorem z_R_person : pT[194]? = some (q_R_person, 3, 3, 1, 12) := rfl
def W_R_person (F : Int32 → Int32 → M Int32) : CSem := fun _ args k => match args with
  | [(t0, .ref a0), (_, .int a1), (_, .int a2)] => mB (Nat.beq t0 112) <| bn (F a1 a2) fun v => k (some (0, .int v))
  | _ => fl
def cs_R_person (f_R_isIn : Int32 → Int32 → Int32 → M Int32) : List (Nat × Nat × CSem) := [(195, 4, W_R_isIn f_R_isIn)]
def F_R_person (x1 : Int32) (x2 : Int32) : M (Int32) :=
  bn (wr 207 0 (0 : Int32)) fun _ =>
  bn (F_R_isIn x1 (0 : Int32) (9 : Int32)) fun v1 =>
  (if v1 = 0 then
    rt (-1 : Int32)
  else
    bn (F_R_isIn x2 (0 : Int32) (9999 : Int32)) fun v2 =>
    (if v2 = 0 then
      rt (-1 : Int32)
    else
      bn (rd 207 6) fun v3 =>
      (if v3 = (6 : Int32) then
        rt (-1 : Int32)
      else
        bn (rd 207 6) fun v4 =>
        bn (sr 6 211 v4 x1) fun _ =>
        bn (rd 207 6) fun v5 =>
        bn (sr 95 208 ((17 : Int32) + v5) x2) fun _ =>
        bn (rd 207 6) fun v6 =>
        bn (wr 207 6 (v6 + (1 : Int32))) fun _ =>
        bn (wr 207 3 (0 : Int32)) fun _ =>
        bn (rd 207 6) fun v7 =>
        rt (v7 - (1 : Int32)))))
set_option maxRecDepth 4000 in
theorem e_s_R_person_0 (f_R_isIn : Int32 → Int32 → Int32 → M Int32) (x1 : Int32) (x2 : Int32) : wf (β := Int32) L X q_R_person 1 (cs_R_person f_R_isIn) [] [] (fun _ _ _ => fl) (fun v => match v with | some (_, .int x) => rt x | _ => fl) 54 0 [(112, .ref 207), (0, .int x1), (0, .int x2)] [] = (bn (wr 207 0 (0 : Int32)) fun _ =>
  bn (f_R_isIn x1 (0 : Int32) (9 : Int32)) fun v1 =>
  (if v1 = 0 then
    rt (-1 : Int32)
  else
    bn (f_R_isIn x2 (0 : Int32) (9999 : Int32)) fun v2 =>
    (if v2 = 0 then
      rt (-1 : Int32)
    else
      bn (rd 207 6) fun v3 =>
      (if v3 = (6 : Int32) then
        rt (-1 : Int32)
      else
        bn (rd 207 6) fun v4 =>
        bn (sr 6 211 v4 x1) fun _ =>
        bn (rd 207 6) fun v5 =>
        bn (sr 95 208 ((17 : Int32) + v5) x2) fun _ =>
        bn (rd 207 6) fun v6 =>
        bn (wr 207 6 (v6 + (1 : Int32))) fun _ =>
        bn (wr 207 3 (0 : Int32)) fun _ =>
        bn (rd 207 6) fun v7 =>
        rt (v7 - (1 : Int32)))))) := rfl
theorem s_R_person_0 {d : Nat} (hcs : AllS L X d (cs_R_person F_R_isIn)) (x1 : Int32) (x2 : Int32) {o : Option Value × PH} {Q : (Int32) → MI → Prop} (q0 : ∀ v I, Q v I → o = (some (.int v), HH I)) (I : MI) (r : Int32) (I1 : MI) (h : F_R_person x1 x2 I = some (r, I1)) (hq : Q r I1) : At L X (d + 1) 194 0 [(112, .ref 207), (0, .int x1), (0, .int x2)] [] I o := by
  refine wf_ok z_R_person hcs ?_ ?_ _ _ _ _ _ ⟨rfl, trivial, trivial, trivial⟩ trivial (unm_refl _ _) ((congrFun (e_s_R_person_0 (L := L) (X := X) F_R_isIn x1 x2) I).trans h)
  · intro pc ls st I2 h1 h2 h3 h
    cases h
  · intro v I2 _ h
    split at h
    · cases h; exact q0 _ _ hq
    · cases h
theorem w_R_person {d : Nat} (hcs : AllS L X d (cs_R_person F_R_isIn)) : Snd L X (d + 1) 194 3 (W_R_person F_R_person) := by
  refine ⟨_, z_R_person, rfl, fun β args k I r hty hlen h => ?_⟩
  unfold W_R_person at h
  split at h
  · rename_i t0 a0 u1 a1 u2 a2
    obtain ⟨hb0, h⟩ := mB_ok h
    have e0 := Nat.eq_of_beq_eq_true hb0
    have g0 : okB 112 a0 = true := e0 ▸ hty.1
    have e20 := one_112 g0
    subst e20
    obtain ⟨v, I1, h1, h2⟩ := bn_some h
    refine ⟨gf_obj (c := 12) (by decide) g0, rfl, some (0, .int v), I1, trivial, ?_, h2⟩
    exact s_R_person_0 hcs a1 a2  (Q := fun w I => w = v ∧ I = I1) (fun w I q => by obtain ⟨rfl, rfl⟩ := q; rfl) I v I1 h1 ⟨rfl, rfl⟩
  · cases h
theorem S_R_person {d : Nat} (hd : 2 ≤ d) : Snd L X d 194 3 (W_R_person F_R_person) := by
  obtain ⟨e, rfl⟩ : ∃ e, d = e + 1 := ⟨d - 1, by omega⟩
  exact w_R_person ⟨S_R_isIn (by omega), trivial⟩
set_option maxRecDepth 100000 in
theorem z_R_wayOf : pT[285]? = some (q_R_wayOf, 3, 7, 1, 12) := rfl
def W_R_wayOf (F : Int32 → Int32 → M Int32) : CSem := fun _ args k => match args with
  | [(t0, .ref a0), (_, .int a1), (_, .int a2)] => mB (Nat.beq t0 112) <| bn (F a1 a2) fun v => k (some (0, .int v))
  | _ => fl
def cs_R_wayOf (f_R_has : Int32 → Int32 → M Int32) : List (Nat × Nat × CSem) := [(286, 3, W_R_has f_R_has)]
def B_R_wayOf_34 (x2 : Int32) (x3 : Int32) (x4 : Int32) (y : Int32 × Int32) : M ((Int32 × Int32) ⊕ ((Int32))) :=
  (if y.2 < (10 : Int32) then
    bn (F_R_has x3 y.2) fun v1 =>
    (if v1 = 0 then
      rt (.inl (y.1, (y.2 + (1 : Int32))))
    else
      bn (ld 20 228 y.2) fun v2 =>
      rt (.inl ((y.1 ||| v2), (y.2 + (1 : Int32)))))
  else
    rt (.inr y.1))
set_option maxRecDepth 4000 in
theorem e_b_R_wayOf_34 (f_R_has : Int32 → Int32 → M Int32) (x2 : Int32) (x3 : Int32) (x4 : Int32) (y : Int32 × Int32) : wf (β := (Int32 × Int32) ⊕ ((Int32))) L X q_R_wayOf 1 (cs_R_wayOf f_R_has) [5, 6] [7, 34, 69] (fun pc ls st => mC (Nat.beq pc 34) (mN st <| gD ls 1 <| gI ls 5 fun a5 => gI ls 6 fun a6 => rt (.inl (a5, a6))) (mC (Nat.beq pc 69) (mN st <| gD ls 1 <| gD ls 3 <| gI ls 5 fun a5 => gD ls 6 <| rt (.inr a5)) (fl))) (fun _ => fl) 50 34 [(112, .ref 207), (0, dV), (0, .int x2), (0, .int x3), (0, .int x4), (0, .int y.1), (0, .int y.2)] [] = ((if y.2 < (10 : Int32) then
    bn (f_R_has x3 y.2) fun v1 =>
    (if v1 = 0 then
      rt (.inl (y.1, (y.2 + (1 : Int32))))
    else
      bn (ld 20 228 y.2) fun v2 =>
      rt (.inl ((y.1 ||| v2), (y.2 + (1 : Int32)))))
  else
    rt (.inr y.1))) := rfl
theorem b_R_wayOf_34 {d : Nat} (hcs : AllS L X d (cs_R_wayOf F_R_has)) (x2 : Int32) (x3 : Int32) (x4 : Int32) {o : Option Value × PH} {Q : ((Int32 × Int32) ⊕ ((Int32))) → MI → Prop} (qb : ∀ y I, Q (.inl y) I → At L X (d + 1) 285 34 [(112, .ref 207), (0, dV), (0, .int x2), (0, .int x3), (0, .int x4), (0, .int y.1), (0, .int y.2)] [] I o) (qe69 : ∀ y I, Q (.inr y) I → At L X (d + 1) 285 69 [(112, .ref 207), (0, dV), (0, .int x2), (0, dV), (0, .int x4), (0, .int y), (0, dV)] [] I o) (y : Int32 × Int32) (I : MI) (r : (Int32 × Int32) ⊕ ((Int32))) (I1 : MI) (h : B_R_wayOf_34 x2 x3 x4 y I = some (r, I1)) (hq : Q r I1) : At L X (d + 1) 285 34 [(112, .ref 207), (0, dV), (0, .int x2), (0, .int x3), (0, .int x4), (0, .int y.1), (0, .int y.2)] [] I o := by
  refine wf_ok z_R_wayOf hcs ?_ ?_ _ _ _ _ _ ⟨rfl, trivial, trivial, trivial, trivial, trivial, trivial, trivial⟩ trivial (unm_refl _ _) ((congrFun (e_b_R_wayOf_34 (L := L) (X := X) F_R_has x2 x3 x4 y) I).trans h)
  · intro pc ls st I2 h1 h2 h3 h
    rcases mC_ok h with ⟨hb, h⟩ | ⟨_, h⟩
    · have e := Nat.eq_of_beq_eq_true hb
      subst e
      obtain ⟨hst, h⟩ := mN_ok h
      subst hst
      obtain ⟨n1, h⟩ := gD_ok h
      obtain ⟨a5, n5, h⟩ := gI_ok h
      obtain ⟨a6, n6, h⟩ := gI_ok h
      refine at_leaf (ls2 := [(112, .ref 207), (0, dV), (0, .int x2), (0, .int x3), (0, .int x4), (0, .int a5), (0, .int a6)]) h3.1 ⟨Or.inr ⟨_, (h3.2 0 rfl).trans rfl⟩, Or.inl ⟨rfl, n1⟩, Or.inr ⟨_, (h3.2 2 rfl).trans rfl⟩, Or.inr ⟨_, (h3.2 3 rfl).trans rfl⟩, Or.inr ⟨_, (h3.2 4 rfl).trans rfl⟩, Or.inr n5, Or.inr n6, trivial⟩ ?_
      cases h; exact qb _ _ hq
    rcases mC_ok h with ⟨hb, h⟩ | ⟨_, h⟩
    · have e := Nat.eq_of_beq_eq_true hb
      subst e
      obtain ⟨hst, h⟩ := mN_ok h
      subst hst
      obtain ⟨n1, h⟩ := gD_ok h
      obtain ⟨n3, h⟩ := gD_ok h
      obtain ⟨a5, n5, h⟩ := gI_ok h
      obtain ⟨n6, h⟩ := gD_ok h
      refine at_leaf (ls2 := [(112, .ref 207), (0, dV), (0, .int x2), (0, dV), (0, .int x4), (0, .int a5), (0, dV)]) h3.1 ⟨Or.inr ⟨_, (h3.2 0 rfl).trans rfl⟩, Or.inl ⟨rfl, n1⟩, Or.inr ⟨_, (h3.2 2 rfl).trans rfl⟩, Or.inl ⟨rfl, n3⟩, Or.inr ⟨_, (h3.2 4 rfl).trans rfl⟩, Or.inr n5, Or.inl ⟨rfl, n6⟩, trivial⟩ ?_
      cases h; exact qe69 _ _ hq
    cases h
  · intro v I2 _ h
    cases h
def K_R_wayOf_69 (x2 : Int32) (x4 : Int32) (x5 : Int32) : M ((Int32 × Int32) ⊕ (Int32)) :=
  rt (.inl (x5, (x4 + (1 : Int32))))
set_option maxRecDepth 4000 in
theorem e_s_R_wayOf_69 (f_R_has : Int32 → Int32 → M Int32) (x2 : Int32) (x4 : Int32) (x5 : Int32) : wf (β := (Int32 × Int32) ⊕ (Int32)) L X q_R_wayOf 1 (cs_R_wayOf f_R_has) [3, 4] [7, 34, 69] (fun pc ls st => mC (Nat.beq pc 7) (mN st <| gD ls 1 <| gI ls 3 fun a3 => gI ls 4 fun a4 => gD ls 5 <| gD ls 6 <| rt (.inl (a3, a4))) (fl)) (fun v => match v with | some (_, .int x) => rt (.inr x) | _ => fl) 50 69 [(112, .ref 207), (0, dV), (0, .int x2), (0, dV), (0, .int x4), (0, .int x5), (0, dV)] [] = (rt (.inl (x5, (x4 + (1 : Int32))))) := rfl
theorem s_R_wayOf_69 {d : Nat} (hcs : AllS L X d (cs_R_wayOf F_R_has)) (x2 : Int32) (x4 : Int32) (x5 : Int32) {o : Option Value × PH} {Q : ((Int32 × Int32) ⊕ (Int32)) → MI → Prop} (qb : ∀ y I, Q (.inl y) I → At L X (d + 1) 285 7 [(112, .ref 207), (0, dV), (0, .int x2), (0, .int y.1), (0, .int y.2), (0, dV), (0, dV)] [] I o) (qr : ∀ v I, Q (.inr v) I → o = (some (.int v), HH I)) (I : MI) (r : (Int32 × Int32) ⊕ (Int32)) (I1 : MI) (h : K_R_wayOf_69 x2 x4 x5 I = some (r, I1)) (hq : Q r I1) : At L X (d + 1) 285 69 [(112, .ref 207), (0, dV), (0, .int x2), (0, dV), (0, .int x4), (0, .int x5), (0, dV)] [] I o := by
  refine wf_ok z_R_wayOf hcs ?_ ?_ _ _ _ _ _ ⟨rfl, trivial, trivial, trivial, trivial, trivial, trivial, trivial⟩ trivial (unm_refl _ _) ((congrFun (e_s_R_wayOf_69 (L := L) (X := X) F_R_has x2 x4 x5) I).trans h)
  · intro pc ls st I2 h1 h2 h3 h
    rcases mC_ok h with ⟨hb, h⟩ | ⟨_, h⟩
    · have e := Nat.eq_of_beq_eq_true hb
      subst e
      obtain ⟨hst, h⟩ := mN_ok h
      subst hst
      obtain ⟨n1, h⟩ := gD_ok h
      obtain ⟨a3, n3, h⟩ := gI_ok h
      obtain ⟨a4, n4, h⟩ := gI_ok h
      obtain ⟨n5, h⟩ := gD_ok h
      obtain ⟨n6, h⟩ := gD_ok h
      refine at_leaf (ls2 := [(112, .ref 207), (0, dV), (0, .int x2), (0, .int a3), (0, .int a4), (0, dV), (0, dV)]) h3.1 ⟨Or.inr ⟨_, (h3.2 0 rfl).trans rfl⟩, Or.inl ⟨rfl, n1⟩, Or.inr ⟨_, (h3.2 2 rfl).trans rfl⟩, Or.inr n3, Or.inr n4, Or.inl ⟨rfl, n5⟩, Or.inl ⟨rfl, n6⟩, trivial⟩ ?_
      cases h; exact qb _ _ hq
    cases h
  · intro v I2 _ h
    split at h
    · cases h; exact qr _ _ hq
    · cases h
def K_R_wayOf_34 (x2 : Int32) (x3 : Int32) (x4 : Int32) (x5 : Int32) (x6 : Int32) : M ((Int32 × Int32) ⊕ (Int32)) :=
  bn (lp (B_R_wayOf_34 x2 x3 x4) FU (x5, x6)) fun e => K_R_wayOf_69 x2 x4 e
theorem s_R_wayOf_34 {d : Nat} (hcs : AllS L X d (cs_R_wayOf F_R_has)) (x2 : Int32) (x3 : Int32) (x4 : Int32) (x5 : Int32) (x6 : Int32) {o : Option Value × PH} {Q : ((Int32 × Int32) ⊕ (Int32)) → MI → Prop} (qb : ∀ y I, Q (.inl y) I → At L X (d + 1) 285 7 [(112, .ref 207), (0, dV), (0, .int x2), (0, .int y.1), (0, .int y.2), (0, dV), (0, dV)] [] I o) (qr : ∀ v I, Q (.inr v) I → o = (some (.int v), HH I)) (I : MI) (r : (Int32 × Int32) ⊕ (Int32)) (I1 : MI) (h : K_R_wayOf_34 x2 x3 x4 x5 x6 I = some (r, I1)) (hq : Q r I1) : At L X (d + 1) 285 34 [(112, .ref 207), (0, dV), (0, .int x2), (0, .int x3), (0, .int x4), (0, .int x5), (0, .int x6)] [] I o := by
  unfold K_R_wayOf_34 at h
  obtain ⟨e, I2, h1, h2⟩ := bn_some h
  have w0 := fun w => at_lp (body := B_R_wayOf_34 x2 x3 x4) (P := (fun (y : Int32 × Int32) I => At L X (d + 1) 285 34 [(112, .ref 207), (0, dV), (0, .int x2), (0, .int x3), (0, .int x4), (0, .int y.1), (0, .int y.2)] [] I o)) (Q := (fun (e : (Int32)) I => (K_R_wayOf_69 x2 x4 e) I = some (r, I1))) w FU (x5, x6) I e I2 h1 h2
  refine w0 ?_
  intro y I r2 I3 h hq2
  exact b_R_wayOf_34 hcs x2 x3 x4 (Q := SQ (fun (y : Int32 × Int32) I => At L X (d + 1) 285 34 [(112, .ref 207), (0, dV), (0, .int x2), (0, .int x3), (0, .int x4), (0, .int y.1), (0, .int y.2)] [] I o) (fun (e : (Int32)) I => (K_R_wayOf_69 x2 x4 e) I = some (r, I1))) (fun _ _ w => w) (fun y I w => s_R_wayOf_69 hcs x2 x4 y qb qr _ _ _ w hq) y I r2 I3 h hq2
def B_R_wayOf_7 (x2 : Int32) (y : Int32 × Int32) : M ((Int32 × Int32) ⊕ (Int32)) :=
  (if y.2 < (10 : Int32) then
    bn (F_R_has y.1 x2) fun v1 =>
    (if v1 = 0 then
      K_R_wayOf_34 x2 y.1 y.2 y.1 (0 : Int32)
    else
      rt (.inr ((5 : Int32) * y.2)))
  else
    rt (.inr (100000000 : Int32)))
set_option maxRecDepth 4000 in
theorem e_b_R_wayOf_7 (f_R_has : Int32 → Int32 → M Int32) (k_34 : Int32 → Int32 → Int32 → Int32 → Int32 → M ((Int32 × Int32) ⊕ (Int32))) (x2 : Int32) (y : Int32 × Int32) : wf (β := (Int32 × Int32) ⊕ (Int32)) L X q_R_wayOf 1 (cs_R_wayOf f_R_has) [5, 6] [7, 34, 69] (fun pc ls st => mC (Nat.beq pc 34) (mN st <| gD ls 1 <| gI ls 5 fun a5 => gI ls 6 fun a6 => k_34 x2 y.1 y.2 a5 a6) (fl)) (fun v => match v with | some (_, .int x) => rt (.inr x) | _ => fl) 50 7 [(112, .ref 207), (0, dV), (0, .int x2), (0, .int y.1), (0, .int y.2), (0, dV), (0, dV)] [] = ((if y.2 < (10 : Int32) then
    bn (f_R_has y.1 x2) fun v1 =>
    (if v1 = 0 then
      k_34 x2 y.1 y.2 y.1 (0 : Int32)
    else
      rt (.inr ((5 : Int32) * y.2)))
  else
    rt (.inr (100000000 : Int32)))) := rfl
theorem b_R_wayOf_7 {d : Nat} (hcs : AllS L X d (cs_R_wayOf F_R_has)) (x2 : Int32) {o : Option Value × PH} {Q : ((Int32 × Int32) ⊕ (Int32)) → MI → Prop} (qb : ∀ y I, Q (.inl y) I → At L X (d + 1) 285 7 [(112, .ref 207), (0, dV), (0, .int x2), (0, .int y.1), (0, .int y.2), (0, dV), (0, dV)] [] I o) (qr : ∀ v I, Q (.inr v) I → o = (some (.int v), HH I)) (y : Int32 × Int32) (I : MI) (r : (Int32 × Int32) ⊕ (Int32)) (I1 : MI) (h : B_R_wayOf_7 x2 y I = some (r, I1)) (hq : Q r I1) : At L X (d + 1) 285 7 [(112, .ref 207), (0, dV), (0, .int x2), (0, .int y.1), (0, .int y.2), (0, dV), (0, dV)] [] I o := by
  refine wf_ok z_R_wayOf hcs ?_ ?_ _ _ _ _ _ ⟨rfl, trivial, trivial, trivial, trivial, trivial, trivial, trivial⟩ trivial (unm_refl _ _) ((congrFun (e_b_R_wayOf_7 (L := L) (X := X) F_R_has K_R_wayOf_34 x2 y) I).trans h)
  · intro pc ls st I2 h1 h2 h3 h
    rcases mC_ok h with ⟨hb, h⟩ | ⟨_, h⟩
    · have e := Nat.eq_of_beq_eq_true hb
      subst e
      obtain ⟨hst, h⟩ := mN_ok h
      subst hst
      obtain ⟨n1, h⟩ := gD_ok h
      obtain ⟨a5, n5, h⟩ := gI_ok h
      obtain ⟨a6, n6, h⟩ := gI_ok h
      refine at_leaf (ls2 := [(112, .ref 207), (0, dV), (0, .int x2), (0, .int y.1), (0, .int y.2), (0, .int a5), (0, .int a6)]) h3.1 ⟨Or.inr ⟨_, (h3.2 0 rfl).trans rfl⟩, Or.inl ⟨rfl, n1⟩, Or.inr ⟨_, (h3.2 2 rfl).trans rfl⟩, Or.inr ⟨_, (h3.2 3 rfl).trans rfl⟩, Or.inr ⟨_, (h3.2 4 rfl).trans rfl⟩, Or.inr n5, Or.inr n6, trivial⟩ ?_
      exact s_R_wayOf_34 hcs x2 y.1 y.2 a5 a6 qb qr _ _ _ h hq
    cases h
  · intro v I2 _ h
    split at h
    · cases h; exact qr _ _ hq
    · cases h
def K_R_wayOf_7 (x2 : Int32) (x3 : Int32) (x4 : Int32) : M (Int32) :=
  lp (B_R_wayOf_7 x2) FU (x3, x4)
theorem s_R_wayOf_7 {d : Nat} (hcs : AllS L X d (cs_R_wayOf F_R_has)) (x2 : Int32) (x3 : Int32) (x4 : Int32) {o : Option Value × PH} {Q : (Int32) → MI → Prop} (q0 : ∀ v I, Q v I → o = (some (.int v), HH I)) (I : MI) (r : Int32) (I1 : MI) (h : K_R_wayOf_7 x2 x3 x4 I = some (r, I1)) (hq : Q r I1) : At L X (d + 1) 285 7 [(112, .ref 207), (0, dV), (0, .int x2), (0, .int x3), (0, .int x4), (0, dV), (0, dV)] [] I o := by
  unfold K_R_wayOf_7 at h
  have w0 := fun w => at_lp (body := B_R_wayOf_7 x2) (P := (fun (y : Int32 × Int32) I => At L X (d + 1) 285 7 [(112, .ref 207), (0, dV), (0, .int x2), (0, .int y.1), (0, .int y.2), (0, dV), (0, dV)] [] I o)) (Q := (fun (e : Int32) I => Q e I)) w FU (x3, x4) I r I1 h hq
  refine w0 ?_
  intro y I r I1 h hq
  exact b_R_wayOf_7 hcs x2 (Q := SQ (fun (y : Int32 × Int32) I => At L X (d + 1) 285 7 [(112, .ref 207), (0, dV), (0, .int x2), (0, .int y.1), (0, .int y.2), (0, dV), (0, dV)] [] I o) (fun (e : Int32) I => Q e I)) (fun _ _ w => w) q0 y I r I1 h hq
def F_R_wayOf (x1 : Int32) (x2 : Int32) : M (Int32) :=
  K_R_wayOf_7 x2 ((1 : Int32) <<< (x1 &&& 31)) (0 : Int32)
set_option maxRecDepth 4000 in
theorem e_s_R_wayOf_0 (f_R_has : Int32 → Int32 → M Int32) (k_7 : Int32 → Int32 → Int32 → M (Int32)) (x1 : Int32) (x2 : Int32) : wf (β := Int32) L X q_R_wayOf 1 (cs_R_wayOf f_R_has) [3, 4] [7, 34, 69] (fun pc ls st => mC (Nat.beq pc 7) (mN st <| gD ls 1 <| gI ls 3 fun a3 => gI ls 4 fun a4 => gD ls 5 <| gD ls 6 <| k_7 x2 a3 a4) (fl)) (fun v => match v with | some (_, .int x) => rt x | _ => fl) 50 0 [(112, .ref 207), (0, .int x1), (0, .int x2), (0, dV), (0, dV), (0, dV), (0, dV)] [] = (k_7 x2 ((1 : Int32) <<< (x1 &&& 31)) (0 : Int32)) := rfl
theorem s_R_wayOf_0 {d : Nat} (hcs : AllS L X d (cs_R_wayOf F_R_has)) (x1 : Int32) (x2 : Int32) {o : Option Value × PH} {Q : (Int32) → MI → Prop} (q0 : ∀ v I, Q v I → o = (some (.int v), HH I)) (I : MI) (r : Int32) (I1 : MI) (h : F_R_wayOf x1 x2 I = some (r, I1)) (hq : Q r I1) : At L X (d + 1) 285 0 [(112, .ref 207), (0, .int x1), (0, .int x2), (0, dV), (0, dV), (0, dV), (0, dV)] [] I o := by
  refine wf_ok z_R_wayOf hcs ?_ ?_ _ _ _ _ _ ⟨rfl, trivial, trivial, trivial, trivial, trivial, trivial, trivial⟩ trivial (unm_refl _ _) ((congrFun (e_s_R_wayOf_0 (L := L) (X := X) F_R_has K_R_wayOf_7 x1 x2) I).trans h)
  · intro pc ls st I2 h1 h2 h3 h
    rcases mC_ok h with ⟨hb, h⟩ | ⟨_, h⟩
    · have e := Nat.eq_of_beq_eq_true hb
      subst e
      obtain ⟨hst, h⟩ := mN_ok h
      subst hst
      obtain ⟨n1, h⟩ := gD_ok h
      obtain ⟨a3, n3, h⟩ := gI_ok h
      obtain ⟨a4, n4, h⟩ := gI_ok h
      obtain ⟨n5, h⟩ := gD_ok h
      obtain ⟨n6, h⟩ := gD_ok h
      refine at_leaf (ls2 := [(112, .ref 207), (0, dV), (0, .int x2), (0, .int a3), (0, .int a4), (0, dV), (0, dV)]) h3.1 ⟨Or.inr ⟨_, (h3.2 0 rfl).trans rfl⟩, Or.inl ⟨rfl, n1⟩, Or.inr ⟨_, (h3.2 2 rfl).trans rfl⟩, Or.inr n3, Or.inr n4, Or.inl ⟨rfl, n5⟩, Or.inl ⟨rfl, n6⟩, trivial⟩ ?_
      exact s_R_wayOf_7 hcs x2 a3 a4 q0 _ _ _ h hq
    cases h
  · intro v I2 _ h
    split at h
    · cases h; exact q0 _ _ hq
    · cases h
theorem w_R_wayOf {d : Nat} (hcs : AllS L X d (cs_R_wayOf F_R_has)) : Snd L X (d + 1) 285 3 (W_R_wayOf F_R_wayOf) := by
  refine ⟨_, z_R_wayOf, rfl, fun β args k I r hty hlen h => ?_⟩
  unfold W_R_wayOf at h
  split at h
  · rename_i t0 a0 u1 a1 u2 a2
    obtain ⟨hb0, h⟩ := mB_ok h
    have e0 := Nat.eq_of_beq_eq_true hb0
    have g0 : okB 112 a0 = true := e0 ▸ hty.1
    have e20 := one_112 g0
    subst e20
    obtain ⟨v, I1, h1, h2⟩ := bn_some h
    refine ⟨gf_obj (c := 12) (by decide) g0, rfl, some (0, .int v), I1, trivial, ?_, h2⟩
    exact s_R_wayOf_0 hcs a1 a2  (Q := fun w I => w = v ∧ I = I1) (fun w I q => by obtain ⟨rfl, rfl⟩ := q; rfl) I v I1 h1 ⟨rfl, rfl⟩
  · cases h
theorem S_R_wayOf {d : Nat} (hd : 2 ≤ d) : Snd L X d 285 3 (W_R_wayOf F_R_wayOf) := by
  obtain ⟨e, rfl⟩ : ∃ e, d = e + 1 := ⟨d - 1, by omega⟩
  exact w_R_wayOf ⟨S_R_has (by omega), trivial⟩
end
