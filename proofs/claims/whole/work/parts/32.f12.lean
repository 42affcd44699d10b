/-! methods (written by wip/tools/gen_f.py) -/
section
variable {L : Nat} {X : Nat → Int32}
set_option maxRecDepth 100000 in
theorem z_R_thinks : pT[278]? = some (q_R_thinks, 1, 2, 0, 12) := rfl
def W_R_thinks (F : M Unit) : CSem := fun _ args k => match args with
  | [(t0, .ref a0)] => mB (Nat.beq t0 112) <| bn (F) fun _ => k none
  | _ => fl
def cs_R_thinks : List (Nat × Nat × CSem) := []
def B_R_thinks_2 (y : Int32) : M ((Int32) ⊕ (Unit)) :=
  (if y < (95 : Int32) then
    bn (ld 95 208 y) fun v1 =>
    bn (sr 95 210 y v1) fun _ =>
    rt (.inl (y + (1 : Int32)))
  else
    bn (wrZ 207 5 (1 : Int32)) fun _ =>
    rt (.inr ()))
set_option maxRecDepth 4000 in
theorem e_b_R_thinks_2 (y : Int32) : wf (β := (Int32) ⊕ (Unit)) L X q_R_thinks 0 cs_R_thinks [1] [2] (fun pc ls st => mC (Nat.beq pc 2) (mN st <| gI ls 1 fun a1 => rt (.inl a1)) (fl)) (fun v => match v with | none => rt (.inr ()) | _ => fl) 24 2 [(112, .ref 207), (0, .int y)] [] = ((if y < (95 : Int32) then
    bn (ld 95 208 y) fun v1 =>
    bn (sr 95 210 y v1) fun _ =>
    rt (.inl (y + (1 : Int32)))
  else
    bn (wrZ 207 5 (1 : Int32)) fun _ =>
    rt (.inr ()))) := rfl
theorem b_R_thinks_2 {d : Nat} (hcs : AllS L X d cs_R_thinks) {o : Option Value × PH} {Q : ((Int32) ⊕ (Unit)) → MI → Prop} (qb : ∀ y I, Q (.inl y) I → At L X (d + 1) 278 2 [(112, .ref 207), (0, .int y)] [] I o) (qr : ∀ v I, Q (.inr v) I → o = (none, HH I)) (y : Int32) (I : MI) (r : (Int32) ⊕ (Unit)) (I1 : MI) (h : B_R_thinks_2 y I = some (r, I1)) (hq : Q r I1) : At L X (d + 1) 278 2 [(112, .ref 207), (0, .int y)] [] I o := by
  refine wf_ok z_R_thinks hcs ?_ ?_ _ _ _ _ _ ⟨rfl, trivial, trivial⟩ trivial (unm_refl _ _) ((congrFun (e_b_R_thinks_2 (L := L) (X := X) y) I).trans h)
  · intro pc ls st I2 h1 h2 h3 h
    rcases mC_ok h with ⟨hb, h⟩ | ⟨_, h⟩
    · have e := Nat.eq_of_beq_eq_true hb
      subst e
      obtain ⟨hst, h⟩ := mN_ok h
      subst hst
      obtain ⟨a1, n1, h⟩ := gI_ok h
      refine at_leaf (ls2 := [(112, .ref 207), (0, .int a1)]) h3.1 ⟨Or.inr ⟨_, (h3.2 0 rfl).trans rfl⟩, Or.inr n1, trivial⟩ ?_
      cases h; exact qb _ _ hq
    cases h
  · intro v I2 _ h
    split at h
    · cases h; exact qr _ _ hq
    · cases h
def K_R_thinks_2 (x1 : Int32) : M (Unit) :=
  lp (B_R_thinks_2) FU x1
theorem s_R_thinks_2 {d : Nat} (hcs : AllS L X d cs_R_thinks) (x1 : Int32) {o : Option Value × PH} {Q : (Unit) → MI → Prop} (q0 : ∀ v I, Q v I → o = (none, HH I)) (I : MI) (r : Unit) (I1 : MI) (h : K_R_thinks_2 x1 I = some (r, I1)) (hq : Q r I1) : At L X (d + 1) 278 2 [(112, .ref 207), (0, .int x1)] [] I o := by
  unfold K_R_thinks_2 at h
  have w0 := fun w => at_lp (body := B_R_thinks_2) (P := (fun (y : Int32) I => At L X (d + 1) 278 2 [(112, .ref 207), (0, .int y)] [] I o)) (Q := (fun (e : Unit) I => Q e I)) w FU x1 I r I1 h hq
  refine w0 ?_
  intro y I r I1 h hq
  exact b_R_thinks_2 hcs (Q := SQ (fun (y : Int32) I => At L X (d + 1) 278 2 [(112, .ref 207), (0, .int y)] [] I o) (fun (e : Unit) I => Q e I)) (fun _ _ w => w) q0 y I r I1 h hq
def F_R_thinks : M (Unit) :=
  K_R_thinks_2 (0 : Int32)
set_option maxRecDepth 4000 in
theorem e_s_R_thinks_0 (k_2 : Int32 → M (Unit)) : wf (β := Unit) L X q_R_thinks 0 cs_R_thinks [1] [2] (fun pc ls st => mC (Nat.beq pc 2) (mN st <| gI ls 1 fun a1 => k_2 a1) (fl)) (fun v => match v with | none => rt () | _ => fl) 24 0 [(112, .ref 207), (0, dV)] [] = (k_2 (0 : Int32)) := rfl
theorem s_R_thinks_0 {d : Nat} (hcs : AllS L X d cs_R_thinks) {o : Option Value × PH} {Q : (Unit) → MI → Prop} (q0 : ∀ v I, Q v I → o = (none, HH I)) (I : MI) (r : Unit) (I1 : MI) (h : F_R_thinks I = some (r, I1)) (hq : Q r I1) : At L X (d + 1) 278 0 [(112, .ref 207), (0, dV)] [] I o := by
  refine wf_ok z_R_thinks hcs ?_ ?_ _ _ _ _ _ ⟨rfl, trivial, trivial⟩ trivial (unm_refl _ _) ((congrFun (e_s_R_thinks_0 (L := L) (X := X) K_R_thinks_2) I).trans h)
  · intro pc ls st I2 h1 h2 h3 h
    rcases mC_ok h with ⟨hb, h⟩ | ⟨_, h⟩
    · have e := Nat.eq_of_beq_eq_true hb
      subst e
      obtain ⟨hst, h⟩ := mN_ok h
      subst hst
      obtain ⟨a1, n1, h⟩ := gI_ok h
      refine at_leaf (ls2 := [(112, .ref 207), (0, .int a1)]) h3.1 ⟨Or.inr ⟨_, (h3.2 0 rfl).trans rfl⟩, Or.inr n1, trivial⟩ ?_
      exact s_R_thinks_2 hcs a1 q0 _ _ _ h hq
    cases h
  · intro v I2 _ h
    split at h
    · cases h; exact q0 _ _ hq
    · cases h
theorem w_R_thinks {d : Nat} (hcs : AllS L X d cs_R_thinks) : Snd L X (d + 1) 278 1 (W_R_thinks F_R_thinks) := by
  refine ⟨_, z_R_thinks, rfl, fun β args k I r hty hlen h => ?_⟩
  unfold W_R_thinks at h
  split at h
  · rename_i t0 a0
    obtain ⟨hb0, h⟩ := mB_ok h
    have e0 := Nat.eq_of_beq_eq_true hb0
    have g0 : okB 112 a0 = true := e0 ▸ hty.1
    have e20 := one_112 g0
    subst e20
    obtain ⟨v, I1, h1, h2⟩ := bn_some h
    refine ⟨gf_obj (c := 12) (by decide) g0, rfl, none, I1, trivial, ?_, h2⟩
    exact s_R_thinks_0 hcs   (Q := fun w I => w = v ∧ I = I1) (fun w I q => by obtain ⟨rfl, rfl⟩ := q; rfl) I v I1 h1 ⟨rfl, rfl⟩
  · cases h
theorem S_R_thinks {d : Nat} (hd : 1 ≤ d) : Snd L X d 278 1 (W_R_thinks F_R_thinks) := by
  obtain ⟨e, rfl⟩ : ∃ e, d = e + 1 := ⟨d - 1, by omega⟩
  exact w_R_thinks trivial
set_option maxRecDepth 100000 in
theorem z_R_goes : pT[277]? = some (q_R_goes, 3, 5, 1, 12) := rfl
def W_R_goes (F : Int32 → Int32 → M Int32) : CSem := fun _ args k => match args with
  | [(t0, .ref a0), (_, .int a1), (_, .int a2)] => mB (Nat.beq t0 112) <| bn (F a1 a2) fun v => k (some (0, .int v))
  | _ => fl
def cs_R_goes (f_R_endsThought : M Unit) (f_R_goesBy : M Int32) (f_R_isIn : Int32 → Int32 → Int32 → M Int32) (f_R_thinks : M Unit) : List (Nat × Nat × CSem) := [(279, 1, W_R_endsThought f_R_endsThought), (244, 1, W_R_goesBy f_R_goesBy), (195, 4, W_R_isIn f_R_isIn), (278, 1, W_R_thinks f_R_thinks)]
def B_R_goes_34 (x1 : Int32) (x2 : Int32) (y : Int32) : M ((Int32) ⊕ ((Unit))) :=
  (if y < x1 then
    bn (F_R_goesBy) fun v1 =>
    rt (.inl (y + (1 : Int32)))
  else
    rt (.inr ()))
set_option maxRecDepth 4000 in
theorem e_b_R_goes_34 (f_R_endsThought : M Unit) (f_R_goesBy : M Int32) (f_R_isIn : Int32 → Int32 → Int32 → M Int32) (f_R_thinks : M Unit) (x1 : Int32) (x2 : Int32) (y : Int32) : wf (β := (Int32) ⊕ ((Unit))) L X q_R_goes 1 (cs_R_goes f_R_endsThought f_R_goesBy f_R_isIn f_R_thinks) [3] [34, 50, 98] (fun pc ls st => mC (Nat.beq pc 34) (mN st <| gI ls 3 fun a3 => gD ls 4 <| rt (.inl a3)) (mC (Nat.beq pc 50) (mN st <| gD ls 1 <| gD ls 3 <| gD ls 4 <| rt (.inr ())) (fl))) (fun _ => fl) 83 34 [(112, .ref 207), (0, .int x1), (0, .int x2), (0, .int y), (0, dV)] [] = ((if y < x1 then
    bn (f_R_goesBy) fun v1 =>
    rt (.inl (y + (1 : Int32)))
  else
    rt (.inr ()))) := rfl
theorem b_R_goes_34 {d : Nat} (hcs : AllS L X d (cs_R_goes F_R_endsThought F_R_goesBy F_R_isIn F_R_thinks)) (x1 : Int32) (x2 : Int32) {o : Option Value × PH} {Q : ((Int32) ⊕ ((Unit))) → MI → Prop} (qb : ∀ y I, Q (.inl y) I → At L X (d + 1) 277 34 [(112, .ref 207), (0, .int x1), (0, .int x2), (0, .int y), (0, dV)] [] I o) (qe50 : ∀ y I, Q (.inr y) I → At L X (d + 1) 277 50 [(112, .ref 207), (0, dV), (0, .int x2), (0, dV), (0, dV)] [] I o) (y : Int32) (I : MI) (r : (Int32) ⊕ ((Unit))) (I1 : MI) (h : B_R_goes_34 x1 x2 y I = some (r, I1)) (hq : Q r I1) : At L X (d + 1) 277 34 [(112, .ref 207), (0, .int x1), (0, .int x2), (0, .int y), (0, dV)] [] I o := by
  refine wf_ok z_R_goes hcs ?_ ?_ _ _ _ _ _ ⟨rfl, trivial, trivial, trivial, trivial, trivial⟩ trivial (unm_refl _ _) ((congrFun (e_b_R_goes_34 (L := L) (X := X) F_R_endsThought F_R_goesBy F_R_isIn F_R_thinks x1 x2 y) I).trans h)
  · intro pc ls st I2 h1 h2 h3 h
    rcases mC_ok h with ⟨hb, h⟩ | ⟨_, h⟩
    · have e := Nat.eq_of_beq_eq_true hb
      subst e
      obtain ⟨hst, h⟩ := mN_ok h
      subst hst
      obtain ⟨a3, n3, h⟩ := gI_ok h
      obtain ⟨n4, h⟩ := gD_ok h
      refine at_leaf (ls2 := [(112, .ref 207), (0, .int x1), (0, .int x2), (0, .int a3), (0, dV)]) h3.1 ⟨Or.inr ⟨_, (h3.2 0 rfl).trans rfl⟩, Or.inr ⟨_, (h3.2 1 rfl).trans rfl⟩, Or.inr ⟨_, (h3.2 2 rfl).trans rfl⟩, Or.inr n3, Or.inl ⟨rfl, n4⟩, trivial⟩ ?_
      cases h; exact qb _ _ hq
    rcases mC_ok h with ⟨hb, h⟩ | ⟨_, h⟩
    · have e := Nat.eq_of_beq_eq_true hb
      subst e
      obtain ⟨hst, h⟩ := mN_ok h
      subst hst
      obtain ⟨n1, h⟩ := gD_ok h
      obtain ⟨n3, h⟩ := gD_ok h
      obtain ⟨n4, h⟩ := gD_ok h
      refine at_leaf (ls2 := [(112, .ref 207), (0, dV), (0, .int x2), (0, dV), (0, dV)]) h3.1 ⟨Or.inr ⟨_, (h3.2 0 rfl).trans rfl⟩, Or.inl ⟨rfl, n1⟩, Or.inr ⟨_, (h3.2 2 rfl).trans rfl⟩, Or.inl ⟨rfl, n3⟩, Or.inl ⟨rfl, n4⟩, trivial⟩ ?_
      cases h; exact qe50 _ _ hq
    cases h
  · intro v I2 _ h
    cases h
def B_R_goes_98 (x2 : Int32) (y : Int32 × Int32) : M ((Int32 × Int32) ⊕ (Int32)) :=
  bn (rd 207 6) fun v1 =>
  (if y.2 < v1 then
    (if x2 = 0 then
      bn (ld 95 208 ((17 : Int32) + y.2)) fun v2 =>
      rt (.inl ((y.1 + v2), (y.2 + (1 : Int32))))
    else
      bn (F_R_endsThought) fun _ =>
      rt (.inr y.1))
  else
    bn (F_R_endsThought) fun _ =>
    rt (.inr y.1))
set_option maxRecDepth 4000 in
theorem e_b_R_goes_98 (f_R_endsThought : M Unit) (f_R_goesBy : M Int32) (f_R_isIn : Int32 → Int32 → Int32 → M Int32) (f_R_thinks : M Unit) (x2 : Int32) (y : Int32 × Int32) : wf (β := (Int32 × Int32) ⊕ (Int32)) L X q_R_goes 1 (cs_R_goes f_R_endsThought f_R_goesBy f_R_isIn f_R_thinks) [3, 4] [34, 50, 98] (fun pc ls st => mC (Nat.beq pc 98) (mN st <| gD ls 1 <| gI ls 3 fun a3 => gI ls 4 fun a4 => rt (.inl (a3, a4))) (fl)) (fun v => match v with | some (_, .int x) => rt (.inr x) | _ => fl) 83 98 [(112, .ref 207), (0, dV), (0, .int x2), (0, .int y.1), (0, .int y.2)] [] = (bn (rd 207 6) fun v1 =>
  (if y.2 < v1 then
    (if x2 = 0 then
      bn (ld 95 208 ((17 : Int32) + y.2)) fun v2 =>
      rt (.inl ((y.1 + v2), (y.2 + (1 : Int32))))
    else
      bn (f_R_endsThought) fun _ =>
      rt (.inr y.1))
  else
    bn (f_R_endsThought) fun _ =>
    rt (.inr y.1))) := rfl
theorem b_R_goes_98 {d : Nat} (hcs : AllS L X d (cs_R_goes F_R_endsThought F_R_goesBy F_R_isIn F_R_thinks)) (x2 : Int32) {o : Option Value × PH} {Q : ((Int32 × Int32) ⊕ (Int32)) → MI → Prop} (qb : ∀ y I, Q (.inl y) I → At L X (d + 1) 277 98 [(112, .ref 207), (0, dV), (0, .int x2), (0, .int y.1), (0, .int y.2)] [] I o) (qr : ∀ v I, Q (.inr v) I → o = (some (.int v), HH I)) (y : Int32 × Int32) (I : MI) (r : (Int32 × Int32) ⊕ (Int32)) (I1 : MI) (h : B_R_goes_98 x2 y I = some (r, I1)) (hq : Q r I1) : At L X (d + 1) 277 98 [(112, .ref 207), (0, dV), (0, .int x2), (0, .int y.1), (0, .int y.2)] [] I o := by
  refine wf_ok z_R_goes hcs ?_ ?_ _ _ _ _ _ ⟨rfl, trivial, trivial, trivial, trivial, trivial⟩ trivial (unm_refl _ _) ((congrFun (e_b_R_goes_98 (L := L) (X := X) F_R_endsThought F_R_goesBy F_R_isIn F_R_thinks x2 y) I).trans h)
  · intro pc ls st I2 h1 h2 h3 h
    rcases mC_ok h with ⟨hb, h⟩ | ⟨_, h⟩
    · have e := Nat.eq_of_beq_eq_true hb
      subst e
      obtain ⟨hst, h⟩ := mN_ok h
      subst hst
      obtain ⟨n1, h⟩ := gD_ok h
      obtain ⟨a3, n3, h⟩ := gI_ok h
      obtain ⟨a4, n4, h⟩ := gI_ok h
      refine at_leaf (ls2 := [(112, .ref 207), (0, dV), (0, .int x2), (0, .int a3), (0, .int a4)]) h3.1 ⟨Or.inr ⟨_, (h3.2 0 rfl).trans rfl⟩, Or.inl ⟨rfl, n1⟩, Or.inr ⟨_, (h3.2 2 rfl).trans rfl⟩, Or.inr n3, Or.inr n4, trivial⟩ ?_
      cases h; exact qb _ _ hq
    cases h
  · intro v I2 _ h
    split at h
    · cases h; exact qr _ _ hq
    · cases h
def K_R_goes_98 (x2 : Int32) (x3 : Int32) (x4 : Int32) : M (Int32) :=
  lp (B_R_goes_98 x2) FU (x3, x4)
theorem s_R_goes_98 {d : Nat} (hcs : AllS L X d (cs_R_goes F_R_endsThought F_R_goesBy F_R_isIn F_R_thinks)) (x2 : Int32) (x3 : Int32) (x4 : Int32) {o : Option Value × PH} {Q : (Int32) → MI → Prop} (q0 : ∀ v I, Q v I → o = (some (.int v), HH I)) (I : MI) (r : Int32) (I1 : MI) (h : K_R_goes_98 x2 x3 x4 I = some (r, I1)) (hq : Q r I1) : At L X (d + 1) 277 98 [(112, .ref 207), (0, dV), (0, .int x2), (0, .int x3), (0, .int x4)] [] I o := by
  unfold K_R_goes_98 at h
  have w0 := fun w => at_lp (body := B_R_goes_98 x2) (P := (fun (y : Int32 × Int32) I => At L X (d + 1) 277 98 [(112, .ref 207), (0, dV), (0, .int x2), (0, .int y.1), (0, .int y.2)] [] I o)) (Q := (fun (e : Int32) I => Q e I)) w FU (x3, x4) I r I1 h hq
  refine w0 ?_
  intro y I r I1 h hq
  exact b_R_goes_98 hcs x2 (Q := SQ (fun (y : Int32 × Int32) I => At L X (d + 1) 277 98 [(112, .ref 207), (0, dV), (0, .int x2), (0, .int y.1), (0, .int y.2)] [] I o) (fun (e : Int32) I => Q e I)) (fun _ _ w => w) q0 y I r I1 h hq
def K_R_goes_50 (x2 : Int32) : M (Int32) :=
  (if x2 = (1 : Int32) then
    bn (ld 95 208 (4 : Int32)) fun v3 =>
    K_R_goes_98 x2 v3 (0 : Int32)
  else
    (if x2 = (2 : Int32) then
      bn (ld 95 208 (6 : Int32)) fun v2 =>
      K_R_goes_98 x2 v2 (0 : Int32)
    else
      (if x2 = (3 : Int32) then
        bn (ld 95 208 (5 : Int32)) fun v1 =>
        K_R_goes_98 x2 v1 (0 : Int32)
      else
        K_R_goes_98 x2 (0 : Int32) (0 : Int32))))
set_option maxRecDepth 4000 in
theorem e_s_R_goes_50 (f_R_endsThought : M Unit) (f_R_goesBy : M Int32) (f_R_isIn : Int32 → Int32 → Int32 → M Int32) (f_R_thinks : M Unit) (k_98 : Int32 → Int32 → Int32 → M (Int32)) (x2 : Int32) : wf (β := Int32) L X q_R_goes 1 (cs_R_goes f_R_endsThought f_R_goesBy f_R_isIn f_R_thinks) [3, 4] [34, 50, 98] (fun pc ls st => mC (Nat.beq pc 98) (mN st <| gD ls 1 <| gI ls 3 fun a3 => gI ls 4 fun a4 => k_98 x2 a3 a4) (fl)) (fun v => match v with | some (_, .int x) => rt x | _ => fl) 83 50 [(112, .ref 207), (0, dV), (0, .int x2), (0, dV), (0, dV)] [] = ((if x2 = (1 : Int32) then
    bn (ld 95 208 (4 : Int32)) fun v3 =>
    k_98 x2 v3 (0 : Int32)
  else
    (if x2 = (2 : Int32) then
      bn (ld 95 208 (6 : Int32)) fun v2 =>
      k_98 x2 v2 (0 : Int32)
    else
      (if x2 = (3 : Int32) then
        bn (ld 95 208 (5 : Int32)) fun v1 =>
        k_98 x2 v1 (0 : Int32)
      else
        k_98 x2 (0 : Int32) (0 : Int32))))) := rfl
theorem s_R_goes_50 {d : Nat} (hcs : AllS L X d (cs_R_goes F_R_endsThought F_R_goesBy F_R_isIn F_R_thinks)) (x2 : Int32) {o : Option Value × PH} {Q : (Int32) → MI → Prop} (q0 : ∀ v I, Q v I → o = (some (.int v), HH I)) (I : MI) (r : Int32) (I1 : MI) (h : K_R_goes_50 x2 I = some (r, I1)) (hq : Q r I1) : At L X (d + 1) 277 50 [(112, .ref 207), (0, dV), (0, .int x2), (0, dV), (0, dV)] [] I o := by
  refine wf_ok z_R_goes hcs ?_ ?_ _ _ _ _ _ ⟨rfl, trivial, trivial, trivial, trivial, trivial⟩ trivial (unm_refl _ _) ((congrFun (e_s_R_goes_50 (L := L) (X := X) F_R_endsThought F_R_goesBy F_R_isIn F_R_thinks K_R_goes_98 x2) I).trans h)
  · intro pc ls st I2 h1 h2 h3 h
    rcases mC_ok h with ⟨hb, h⟩ | ⟨_, h⟩
    · have e := Nat.eq_of_beq_eq_true hb
      subst e
      obtain ⟨hst, h⟩ := mN_ok h
      subst hst
      obtain ⟨n1, h⟩ := gD_ok h
      obtain ⟨a3, n3, h⟩ := gI_ok h
      obtain ⟨a4, n4, h⟩ := gI_ok h
      refine at_leaf (ls2 := [(112, .ref 207), (0, dV), (0, .int x2), (0, .int a3), (0, .int a4)]) h3.1 ⟨Or.inr ⟨_, (h3.2 0 rfl).trans rfl⟩, Or.inl ⟨rfl, n1⟩, Or.inr ⟨_, (h3.2 2 rfl).trans rfl⟩, Or.inr n3, Or.inr n4, trivial⟩ ?_
      exact s_R_goes_98 hcs x2 a3 a4 q0 _ _ _ h hq
    cases h
  · intro v I2 _ h
    split at h
    · cases h; exact q0 _ _ hq
    · cases h
def K_R_goes_34 (x1 : Int32) (x2 : Int32) (x3 : Int32) : M (Int32) :=
  bn (lp (B_R_goes_34 x1 x2) FU x3) fun e => K_R_goes_50 x2
theorem s_R_goes_34 {d : Nat} (hcs : AllS L X d (cs_R_goes F_R_endsThought F_R_goesBy F_R_isIn F_R_thinks)) (x1 : Int32) (x2 : Int32) (x3 : Int32) {o : Option Value × PH} {Q : (Int32) → MI → Prop} (q0 : ∀ v I, Q v I → o = (some (.int v), HH I)) (I : MI) (r : Int32) (I1 : MI) (h : K_R_goes_34 x1 x2 x3 I = some (r, I1)) (hq : Q r I1) : At L X (d + 1) 277 34 [(112, .ref 207), (0, .int x1), (0, .int x2), (0, .int x3), (0, dV)] [] I o := by
  unfold K_R_goes_34 at h
  obtain ⟨e, I2, h1, h2⟩ := bn_some h
  have w0 := fun w => at_lp (body := B_R_goes_34 x1 x2) (P := (fun (y : Int32) I => At L X (d + 1) 277 34 [(112, .ref 207), (0, .int x1), (0, .int x2), (0, .int y), (0, dV)] [] I o)) (Q := (fun (e : (Unit)) I => (K_R_goes_50 x2) I = some (r, I1))) w FU x3 I e I2 h1 h2
  refine w0 ?_
  intro y I r2 I3 h hq2
  exact b_R_goes_34 hcs x1 x2 (Q := SQ (fun (y : Int32) I => At L X (d + 1) 277 34 [(112, .ref 207), (0, .int x1), (0, .int x2), (0, .int y), (0, dV)] [] I o) (fun (e : (Unit)) I => (K_R_goes_50 x2) I = some (r, I1))) (fun _ _ w => w) (fun y I w => s_R_goes_50 hcs x2 q0 _ _ _ w hq) y I r2 I3 h hq2
def F_R_goes (x1 : Int32) (x2 : Int32) : M (Int32) :=
  bn (wr 207 0 (0 : Int32)) fun _ =>
  bn (F_R_isIn x1 (1 : Int32) (60 : Int32)) fun v1 =>
  (if v1 = 0 then
    rt (-1 : Int32)
  else
    bn (F_R_isIn x2 (0 : Int32) (3 : Int32)) fun v2 =>
    (if v2 = 0 then
      rt (-1 : Int32)
    else
      bn (F_R_thinks) fun _ =>
      K_R_goes_34 x1 x2 (0 : Int32)))
set_option maxRecDepth 4000 in
theorem e_s_R_goes_0 (f_R_endsThought : M Unit) (f_R_goesBy : M Int32) (f_R_isIn : Int32 → Int32 → Int32 → M Int32) (f_R_thinks : M Unit) (k_34 : Int32 → Int32 → Int32 → M (Int32)) (x1 : Int32) (x2 : Int32) : wf (β := Int32) L X q_R_goes 1 (cs_R_goes f_R_endsThought f_R_goesBy f_R_isIn f_R_thinks) [3] [34, 50, 98] (fun pc ls st => mC (Nat.beq pc 34) (mN st <| gI ls 3 fun a3 => gD ls 4 <| k_34 x1 x2 a3) (fl)) (fun v => match v with | some (_, .int x) => rt x | _ => fl) 83 0 [(112, .ref 207), (0, .int x1), (0, .int x2), (0, dV), (0, dV)] [] = (bn (wr 207 0 (0 : Int32)) fun _ =>
  bn (f_R_isIn x1 (1 : Int32) (60 : Int32)) fun v1 =>
  (if v1 = 0 then
    rt (-1 : Int32)
  else
    bn (f_R_isIn x2 (0 : Int32) (3 : Int32)) fun v2 =>
    (if v2 = 0 then
      rt (-1 : Int32)
    else
      bn (f_R_thinks) fun _ =>
      k_34 x1 x2 (0 : Int32)))) := rfl
theorem s_R_goes_0 {d : Nat} (hcs : AllS L X d (cs_R_goes F_R_endsThought F_R_goesBy F_R_isIn F_R_thinks)) (x1 : Int32) (x2 : Int32) {o : Option Value × PH} {Q : (Int32) → MI → Prop} (q0 : ∀ v I, Q v I → o = (some (.int v), HH I)) (I : MI) (r : Int32) (I1 : MI) (h : F_R_goes x1 x2 I = some (r, I1)) (hq : Q r I1) : At L X (d + 1) 277 0 [(112, .ref 207), (0, .int x1), (0, .int x2), (0, dV), (0, dV)] [] I o := by
  refine wf_ok z_R_goes hcs ?_ ?_ _ _ _ _ _ ⟨rfl, trivial, trivial, trivial, trivial, trivial⟩ trivial (unm_refl _ _) ((congrFun (e_s_R_goes_0 (L := L) (X := X) F_R_endsThought F_R_goesBy F_R_isIn F_R_thinks K_R_goes_34 x1 x2) I).trans h)
  · intro pc ls st I2 h1 h2 h3 h
    rcases mC_ok h with ⟨hb, h⟩ | ⟨_, h⟩
    · have e := Nat.eq_of_beq_eq_true hb
      subst e
      obtain ⟨hst, h⟩ := mN_ok h
      subst hst
      obtain ⟨a3, n3, h⟩ := gI_ok h
      obtain ⟨n4, h⟩ := gD_ok h
      refine at_leaf (ls2 := [(112, .ref 207), (0, .int x1), (0, .int x2), (0, .int a3), (0, dV)]) h3.1 ⟨Or.inr ⟨_, (h3.2 0 rfl).trans rfl⟩, Or.inr ⟨_, (h3.2 1 rfl).trans rfl⟩, Or.inr ⟨_, (h3.2 2 rfl).trans rfl⟩, Or.inr n3, Or.inl ⟨rfl, n4⟩, trivial⟩ ?_
      exact s_R_goes_34 hcs x1 x2 a3 q0 _ _ _ h hq
    cases h
  · intro v I2 _ h
    split at h
    · cases h; exact q0 _ _ hq
    · cases h
theorem w_R_goes {d : Nat} (hcs : AllS L X d (cs_R_goes F_R_endsThought F_R_goesBy F_R_isIn F_R_thinks)) : Snd L X (d + 1) 277 3 (W_R_goes F_R_goes) := by
  refine ⟨_, z_R_goes, rfl, fun β args k I r hty hlen h => ?_⟩
  unfold W_R_goes at h
  split at h
  · rename_i t0 a0 u1 a1 u2 a2
    obtain ⟨hb0, h⟩ := mB_ok h
    have e0 := Nat.eq_of_beq_eq_true hb0
    have g0 : okB 112 a0 = true := e0 ▸ hty.1
    have e20 := one_112 g0
    subst e20
    obtain ⟨v, I1, h1, h2⟩ := bn_some h
    refine ⟨gf_obj (c := 12) (by decide) g0, rfl, some (0, .int v), I1, trivial, ?_, h2⟩
    exact s_R_goes_0 hcs a1 a2  (Q := fun w I => w = v ∧ I = I1) (fun w I q => by obtain ⟨rfl, rfl⟩ := q; rfl) I v I1 h1 ⟨rfl, rfl⟩
  · cases h
theorem S_R_goes {d : Nat} (hd : 8 ≤ d) : Snd L X d 277 3 (W_R_goes F_R_goes) := by
  obtain ⟨e, rfl⟩ : ∃ e, d = e + 1 := ⟨d - 1, by omega⟩
  exact w_R_goes ⟨S_R_endsThought (by omega), S_R_goesBy (by omega), S_R_isIn (by omega), S_R_thinks (by omega), trivial⟩
set_option maxRecDepth 100000 in
theorem z_R_hoop : pT[318]? = some (q_R_hoop, 4, 7, 1, 12) := rfl
def W_R_hoop (F : Int32 → Int32 → Int32 → M Int32) : CSem := fun _ args k => match args with
  | [(t0, .ref a0), (_, .int a1), (_, .int a2), (_, .int a3)] => mB (Nat.beq t0 112) <| bn (F a1 a2 a3) fun v => k (some (0, .int v))
  | _ => fl
def cs_R_hoop (f_R_isIn : Int32 → Int32 → Int32 → M Int32) : List (Nat × Nat × CSem) := [(195, 4, W_R_isIn f_R_isIn)]
def B_R_hoop_50 (x1 : Int32) (x2 : Int32) (x3 : Int32) (y : Int32 × Int32 × Int32) : M ((Int32 × Int32 × Int32) ⊕ ((Int32 × Int32))) :=
  (if y.2.2 = 0 then
    rt (.inr (y.1, y.2.1))
  else
    dvI x1 <|
    rt (.inl ((y.1 + (1 : Int32)), y.2.2, ((y.2.2 + x2) - (y.2.2 + x2) / x1 * x1))))
set_option maxRecDepth 4000 in
theorem e_b_R_hoop_50 (f_R_isIn : Int32 → Int32 → Int32 → M Int32) (x1 : Int32) (x2 : Int32) (x3 : Int32) (y : Int32 × Int32 × Int32) : wf (β := (Int32 × Int32 × Int32) ⊕ ((Int32 × Int32))) L X q_R_hoop 1 (cs_R_hoop f_R_isIn) [4, 5, 6] [50, 76] (fun pc ls st => mC (Nat.beq pc 50) (mN st <| gD ls 0 <| gI ls 4 fun a4 => gI ls 5 fun a5 => gI ls 6 fun a6 => rt (.inl (a4, a5, a6))) (mC (Nat.beq pc 76) (mN st <| gD ls 0 <| gD ls 1 <| gD ls 2 <| gI ls 4 fun a4 => gI ls 5 fun a5 => gD ls 6 <| rt (.inr (a4, a5))) (fl))) (fun _ => fl) 57 50 [(0, dV), (0, .int x1), (0, .int x2), (0, .int x3), (0, .int y.1), (0, .int y.2.1), (0, .int y.2.2)] [] = ((if y.2.2 = 0 then
    rt (.inr (y.1, y.2.1))
  else
    dvI x1 <|
    rt (.inl ((y.1 + (1 : Int32)), y.2.2, ((y.2.2 + x2) - (y.2.2 + x2) / x1 * x1))))) := rfl
theorem b_R_hoop_50 {d : Nat} (hcs : AllS L X d (cs_R_hoop F_R_isIn)) (x1 : Int32) (x2 : Int32) (x3 : Int32) {o : Option Value × PH} {Q : ((Int32 × Int32 × Int32) ⊕ ((Int32 × Int32))) → MI → Prop} (qb : ∀ y I, Q (.inl y) I → At L X (d + 1) 318 50 [(0, dV), (0, .int x1), (0, .int x2), (0, .int x3), (0, .int y.1), (0, .int y.2.1), (0, .int y.2.2)] [] I o) (qe76 : ∀ y I, Q (.inr y) I → At L X (d + 1) 318 76 [(0, dV), (0, dV), (0, dV), (0, .int x3), (0, .int y.1), (0, .int y.2), (0, dV)] [] I o) (y : Int32 × Int32 × Int32) (I : MI) (r : (Int32 × Int32 × Int32) ⊕ ((Int32 × Int32))) (I1 : MI) (h : B_R_hoop_50 x1 x2 x3 y I = some (r, I1)) (hq : Q r I1) : At L X (d + 1) 318 50 [(0, dV), (0, .int x1), (0, .int x2), (0, .int x3), (0, .int y.1), (0, .int y.2.1), (0, .int y.2.2)] [] I o := by
  refine wf_ok z_R_hoop hcs ?_ ?_ _ _ _ _ _ ⟨trivial, trivial, trivial, trivial, trivial, trivial, trivial, trivial⟩ trivial (unm_refl _ _) ((congrFun (e_b_R_hoop_50 (L := L) (X := X) F_R_isIn x1 x2 x3 y) I).trans h)
  · intro pc ls st I2 h1 h2 h3 h
    rcases mC_ok h with ⟨hb, h⟩ | ⟨_, h⟩
    · have e := Nat.eq_of_beq_eq_true hb
      subst e
      obtain ⟨hst, h⟩ := mN_ok h
      subst hst
      obtain ⟨n0, h⟩ := gD_ok h
      obtain ⟨a4, n4, h⟩ := gI_ok h
      obtain ⟨a5, n5, h⟩ := gI_ok h
      obtain ⟨a6, n6, h⟩ := gI_ok h
      refine at_leaf (ls2 := [(0, dV), (0, .int x1), (0, .int x2), (0, .int x3), (0, .int a4), (0, .int a5), (0, .int a6)]) h3.1 ⟨Or.inl ⟨rfl, n0⟩, Or.inr ⟨_, (h3.2 1 rfl).trans rfl⟩, Or.inr ⟨_, (h3.2 2 rfl).trans rfl⟩, Or.inr ⟨_, (h3.2 3 rfl).trans rfl⟩, Or.inr n4, Or.inr n5, Or.inr n6, trivial⟩ ?_
      cases h; exact qb _ _ hq
    rcases mC_ok h with ⟨hb, h⟩ | ⟨_, h⟩
    · have e := Nat.eq_of_beq_eq_true hb
      subst e
      obtain ⟨hst, h⟩ := mN_ok h
      subst hst
      obtain ⟨n0, h⟩ := gD_ok h
      obtain ⟨n1, h⟩ := gD_ok h
      obtain ⟨n2, h⟩ := gD_ok h
      obtain ⟨a4, n4, h⟩ := gI_ok h
      obtain ⟨a5, n5, h⟩ := gI_ok h
      obtain ⟨n6, h⟩ := gD_ok h
      refine at_leaf (ls2 := [(0, dV), (0, dV), (0, dV), (0, .int x3), (0, .int a4), (0, .int a5), (0, dV)]) h3.1 ⟨Or.inl ⟨rfl, n0⟩, Or.inl ⟨rfl, n1⟩, Or.inl ⟨rfl, n2⟩, Or.inr ⟨_, (h3.2 3 rfl).trans rfl⟩, Or.inr n4, Or.inr n5, Or.inl ⟨rfl, n6⟩, trivial⟩ ?_
      cases h; exact qe76 _ _ hq
    cases h
  · intro v I2 _ h
    cases h
def K_R_hoop_76 (x3 : Int32) (x4 : Int32) (x5 : Int32) : M (Int32) :=
  (if x3 = 0 then
    rt x4
  else
    rt x5)
set_option maxRecDepth 4000 in
theorem e_s_R_hoop_76 (f_R_isIn : Int32 → Int32 → Int32 → M Int32) (x3 : Int32) (x4 : Int32) (x5 : Int32) : wf (β := Int32) L X q_R_hoop 1 (cs_R_hoop f_R_isIn) [] [50, 76] (fun _ _ _ => fl) (fun v => match v with | some (_, .int x) => rt x | _ => fl) 57 76 [(0, dV), (0, dV), (0, dV), (0, .int x3), (0, .int x4), (0, .int x5), (0, dV)] [] = ((if x3 = 0 then
    rt x4
  else
    rt x5)) := rfl
theorem s_R_hoop_76 {d : Nat} (hcs : AllS L X d (cs_R_hoop F_R_isIn)) (x3 : Int32) (x4 : Int32) (x5 : Int32) {o : Option Value × PH} {Q : (Int32) → MI → Prop} (q0 : ∀ v I, Q v I → o = (some (.int v), HH I)) (I : MI) (r : Int32) (I1 : MI) (h : K_R_hoop_76 x3 x4 x5 I = some (r, I1)) (hq : Q r I1) : At L X (d + 1) 318 76 [(0, dV), (0, dV), (0, dV), (0, .int x3), (0, .int x4), (0, .int x5), (0, dV)] [] I o := by
  refine wf_ok z_R_hoop hcs ?_ ?_ _ _ _ _ _ ⟨trivial, trivial, trivial, trivial, trivial, trivial, trivial, trivial⟩ trivial (unm_refl _ _) ((congrFun (e_s_R_hoop_76 (L := L) (X := X) F_R_isIn x3 x4 x5) I).trans h)
  · intro pc ls st I2 h1 h2 h3 h
    cases h
  · intro v I2 _ h
    split at h
    · cases h; exact q0 _ _ hq
    · cases h
def K_R_hoop_50 (x1 : Int32) (x2 : Int32) (x3 : Int32) (x4 : Int32) (x5 : Int32) (x6 : Int32) : M (Int32) :=
  bn (lp (B_R_hoop_50 x1 x2 x3) FU (x4, x5, x6)) fun e => K_R_hoop_76 x3 e.1 e.2
theorem s_R_hoop_50 {d : Nat} (hcs : AllS L X d (cs_R_hoop F_R_isIn)) (x1 : Int32) (x2 : Int32) (x3 : Int32) (x4 : Int32) (x5 : Int32) (x6 : Int32) {o : Option Value × PH} {Q : (Int32) → MI → Prop} (q0 : ∀ v I, Q v I → o = (some (.int v), HH I)) (I : MI) (r : Int32) (I1 : MI) (h : K_R_hoop_50 x1 x2 x3 x4 x5 x6 I = some (r, I1)) (hq : Q r I1) : At L X (d + 1) 318 50 [(0, dV), (0, .int x1), (0, .int x2), (0, .int x3), (0, .int x4), (0, .int x5), (0, .int x6)] [] I o := by
  unfold K_R_hoop_50 at h
  obtain ⟨e, I2, h1, h2⟩ := bn_some h
  have w0 := fun w => at_lp (body := B_R_hoop_50 x1 x2 x3) (P := (fun (y : Int32 × Int32 × Int32) I => At L X (d + 1) 318 50 [(0, dV), (0, .int x1), (0, .int x2), (0, .int x3), (0, .int y.1), (0, .int y.2.1), (0, .int y.2.2)] [] I o)) (Q := (fun (e : (Int32 × Int32)) I => (K_R_hoop_76 x3 e.1 e.2) I = some (r, I1))) w FU (x4, x5, x6) I e I2 h1 h2
  refine w0 ?_
  intro y I r2 I3 h hq2
  exact b_R_hoop_50 hcs x1 x2 x3 (Q := SQ (fun (y : Int32 × Int32 × Int32) I => At L X (d + 1) 318 50 [(0, dV), (0, .int x1), (0, .int x2), (0, .int x3), (0, .int y.1), (0, .int y.2.1), (0, .int y.2.2)] [] I o) (fun (e : (Int32 × Int32)) I => (K_R_hoop_76 x3 e.1 e.2) I = some (r, I1))) (fun _ _ w => w) (fun y I w => s_R_hoop_76 hcs x3 y.1 y.2 q0 _ _ _ w hq) y I r2 I3 h hq2
def F_R_hoop (x1 : Int32) (x2 : Int32) (x3 : Int32) : M (Int32) :=
  bn (wr 207 0 (0 : Int32)) fun _ =>
  bn (F_R_isIn x1 (1 : Int32) (60 : Int32)) fun v1 =>
  (if v1 = 0 then
    rt (-1 : Int32)
  else
    bn (F_R_isIn x2 (1 : Int32) (60 : Int32)) fun v2 =>
    (if v2 = 0 then
      rt (-1 : Int32)
    else
      bn (F_R_isIn x3 (0 : Int32) (1 : Int32)) fun v3 =>
      (if v3 = 0 then
        rt (-1 : Int32)
      else
        dvI x1 <|
        K_R_hoop_50 x1 x2 x3 (1 : Int32) (0 : Int32) (x2 - x2 / x1 * x1))))
set_option maxRecDepth 4000 in
theorem e_s_R_hoop_0 (f_R_isIn : Int32 → Int32 → Int32 → M Int32) (k_50 : Int32 → Int32 → Int32 → Int32 → Int32 → Int32 → M (Int32)) (x1 : Int32) (x2 : Int32) (x3 : Int32) : wf (β := Int32) L X q_R_hoop 1 (cs_R_hoop f_R_isIn) [4, 5, 6] [50, 76] (fun pc ls st => mC (Nat.beq pc 50) (mN st <| gD ls 0 <| gI ls 4 fun a4 => gI ls 5 fun a5 => gI ls 6 fun a6 => k_50 x1 x2 x3 a4 a5 a6) (fl)) (fun v => match v with | some (_, .int x) => rt x | _ => fl) 57 0 [(112, .ref 207), (0, .int x1), (0, .int x2), (0, .int x3), (0, dV), (0, dV), (0, dV)] [] = (bn (wr 207 0 (0 : Int32)) fun _ =>
  bn (f_R_isIn x1 (1 : Int32) (60 : Int32)) fun v1 =>
  (if v1 = 0 then
    rt (-1 : Int32)
  else
    bn (f_R_isIn x2 (1 : Int32) (60 : Int32)) fun v2 =>
    (if v2 = 0 then
      rt (-1 : Int32)
    else
      bn (f_R_isIn x3 (0 : Int32) (1 : Int32)) fun v3 =>
      (if v3 = 0 then
        rt (-1 : Int32)
      else
        dvI x1 <|
        k_50 x1 x2 x3 (1 : Int32) (0 : Int32) (x2 - x2 / x1 * x1))))) := rfl
theorem s_R_hoop_0 {d : Nat} (hcs : AllS L X d (cs_R_hoop F_R_isIn)) (x1 : Int32) (x2 : Int32) (x3 : Int32) {o : Option Value × PH} {Q : (Int32) → MI → Prop} (q0 : ∀ v I, Q v I → o = (some (.int v), HH I)) (I : MI) (r : Int32) (I1 : MI) (h : F_R_hoop x1 x2 x3 I = some (r, I1)) (hq : Q r I1) : At L X (d + 1) 318 0 [(112, .ref 207), (0, .int x1), (0, .int x2), (0, .int x3), (0, dV), (0, dV), (0, dV)] [] I o := by
  refine wf_ok z_R_hoop hcs ?_ ?_ _ _ _ _ _ ⟨rfl, trivial, trivial, trivial, trivial, trivial, trivial, trivial⟩ trivial (unm_refl _ _) ((congrFun (e_s_R_hoop_0 (L := L) (X := X) F_R_isIn K_R_hoop_50 x1 x2 x3) I).trans h)
  · intro pc ls st I2 h1 h2 h3 h
    rcases mC_ok h with ⟨hb, h⟩ | ⟨_, h⟩
    · have e := Nat.eq_of_beq_eq_true hb
      subst e
      obtain ⟨hst, h⟩ := mN_ok h
      subst hst
      obtain ⟨n0, h⟩ := gD_ok h
      obtain ⟨a4, n4, h⟩ := gI_ok h
      obtain ⟨a5, n5, h⟩ := gI_ok h
      obtain ⟨a6, n6, h⟩ := gI_ok h
      refine at_leaf (ls2 := [(0, dV), (0, .int x1), (0, .int x2), (0, .int x3), (0, .int a4), (0, .int a5), (0, .int a6)]) h3.1 ⟨Or.inl ⟨rfl, n0⟩, Or.inr ⟨_, (h3.2 1 rfl).trans rfl⟩, Or.inr ⟨_, (h3.2 2 rfl).trans rfl⟩, Or.inr ⟨_, (h3.2 3 rfl).trans rfl⟩, Or.inr n4, Or.inr n5, Or.inr n6, trivial⟩ ?_
      exact s_R_hoop_50 hcs x1 x2 x3 a4 a5 a6 q0 _ _ _ h hq
    cases h
  · intro v I2 _ h
    split at h
    · cases h; exact q0 _ _ hq
    · cases h
theorem w_R_hoop {d : Nat} (hcs : AllS L X d (cs_R_hoop F_R_isIn)) : Snd L X (d + 1) 318 4 (W_R_hoop F_R_hoop) := by
  refine ⟨_, z_R_hoop, rfl, fun β args k I r hty hlen h => ?_⟩
  unfold W_R_hoop at h
  split at h
  · rename_i t0 a0 u1 a1 u2 a2 u3 a3
    obtain ⟨hb0, h⟩ := mB_ok h
    have e0 := Nat.eq_of_beq_eq_true hb0
    have g0 : okB 112 a0 = true := e0 ▸ hty.1
    have e20 := one_112 g0
    subst e20
    obtain ⟨v, I1, h1, h2⟩ := bn_some h
    refine ⟨gf_obj (c := 12) (by decide) g0, rfl, some (0, .int v), I1, trivial, ?_, h2⟩
    exact s_R_hoop_0 hcs a1 a2 a3  (Q := fun w I => w = v ∧ I = I1) (fun w I q => by obtain ⟨rfl, rfl⟩ := q; rfl) I v I1 h1 ⟨rfl, rfl⟩
  · cases h
theorem S_R_hoop {d : Nat} (hd : 2 ≤ d) : Snd L X d 318 4 (W_R_hoop F_R_hoop) := by
  obtain ⟨e, rfl⟩ : ∃ e, d = e + 1 := ⟨d - 1, by omega⟩
  exact w_R_hoop ⟨S_R_isIn (by omega), trivial⟩
set_option maxRecDepth 100000 in
theorem z_R_hours : pT[242]? = some (q_R_hours, 2, 4, 1, 12) := rfl
def W_R_hours (F : Int32 → M Int32) : CSem := fun _ args k => match args with
  | [(t0, .ref a0), (_, .int a1)] => mB (Nat.beq t0 112) <| bn (F a1) fun v => k (some (0, .int v))
  | _ => fl
def cs_R_hours (f_R_goesBy : M Int32) (f_R_isIn : Int32 → Int32 → Int32 → M Int32) (f_R_keepsAhead : M Unit) : List (Nat × Nat × CSem) := [(244, 1, W_R_goesBy f_R_goesBy), (195, 4, W_R_isIn f_R_isIn), (243, 1, W_R_keepsAhead f_R_keepsAhead)]
def B_R_hours_46 (x1 : Int32) (y : Int32 × Int32) : M ((Int32 × Int32) ⊕ (Int32)) :=
  (if y.2 < x1 then
    bn (F_R_keepsAhead) fun _ =>
    bn (F_R_goesBy) fun v1 =>
    rt (.inl ((y.1 + v1), (y.2 + (1 : Int32))))
  else
    rt (.inr y.1))
set_option maxRecDepth 4000 in
theorem e_b_R_hours_46 (f_R_goesBy : M Int32) (f_R_isIn : Int32 → Int32 → Int32 → M Int32) (f_R_keepsAhead : M Unit) (x1 : Int32) (y : Int32 × Int32) : wf (β := (Int32 × Int32) ⊕ (Int32)) L X q_R_hours 1 (cs_R_hours f_R_goesBy f_R_isIn f_R_keepsAhead) [2, 3] [46] (fun pc ls st => mC (Nat.beq pc 46) (mN st <| gI ls 2 fun a2 => gI ls 3 fun a3 => rt (.inl (a2, a3))) (fl)) (fun v => match v with | some (_, .int x) => rt (.inr x) | _ => fl) 49 46 [(112, .ref 207), (0, .int x1), (0, .int y.1), (0, .int y.2)] [] = ((if y.2 < x1 then
    bn (f_R_keepsAhead) fun _ =>
    bn (f_R_goesBy) fun v1 =>
    rt (.inl ((y.1 + v1), (y.2 + (1 : Int32))))
  else
    rt (.inr y.1))) := rfl
theorem b_R_hours_46 {d : Nat} (hcs : AllS L X d (cs_R_hours F_R_goesBy F_R_isIn F_R_keepsAhead)) (x1 : Int32) {o : Option Value × PH} {Q : ((Int32 × Int32) ⊕ (Int32)) → MI → Prop} (qb : ∀ y I, Q (.inl y) I → At L X (d + 1) 242 46 [(112, .ref 207), (0, .int x1), (0, .int y.1), (0, .int y.2)] [] I o) (qr : ∀ v I, Q (.inr v) I → o = (some (.int v), HH I)) (y : Int32 × Int32) (I : MI) (r : (Int32 × Int32) ⊕ (Int32)) (I1 : MI) (h : B_R_hours_46 x1 y I = some (r, I1)) (hq : Q r I1) : At L X (d + 1) 242 46 [(112, .ref 207), (0, .int x1), (0, .int y.1), (0, .int y.2)] [] I o := by
  refine wf_ok z_R_hours hcs ?_ ?_ _ _ _ _ _ ⟨rfl, trivial, trivial, trivial, trivial⟩ trivial (unm_refl _ _) ((congrFun (e_b_R_hours_46 (L := L) (X := X) F_R_goesBy F_R_isIn F_R_keepsAhead x1 y) I).trans h)
  · intro pc ls st I2 h1 h2 h3 h
    rcases mC_ok h with ⟨hb, h⟩ | ⟨_, h⟩
    · have e := Nat.eq_of_beq_eq_true hb
      subst e
      obtain ⟨hst, h⟩ := mN_ok h
      subst hst
      obtain ⟨a2, n2, h⟩ := gI_ok h
      obtain ⟨a3, n3, h⟩ := gI_ok h
      refine at_leaf (ls2 := [(112, .ref 207), (0, .int x1), (0, .int a2), (0, .int a3)]) h3.1 ⟨Or.inr ⟨_, (h3.2 0 rfl).trans rfl⟩, Or.inr ⟨_, (h3.2 1 rfl).trans rfl⟩, Or.inr n2, Or.inr n3, trivial⟩ ?_
      cases h; exact qb _ _ hq
    cases h
  · intro v I2 _ h
    split at h
    · cases h; exact qr _ _ hq
    · cases h
def K_R_hours_46 (x1 : Int32) (x2 : Int32) (x3 : Int32) : M (Int32) :=
  lp (B_R_hours_46 x1) FU (x2, x3)
theorem s_R_hours_46 {d : Nat} (hcs : AllS L X d (cs_R_hours F_R_goesBy F_R_isIn F_R_keepsAhead)) (x1 : Int32) (x2 : Int32) (x3 : Int32) {o : Option Value × PH} {Q : (Int32) → MI → Prop} (q0 : ∀ v I, Q v I → o = (some (.int v), HH I)) (I : MI) (r : Int32) (I1 : MI) (h : K_R_hours_46 x1 x2 x3 I = some (r, I1)) (hq : Q r I1) : At L X (d + 1) 242 46 [(112, .ref 207), (0, .int x1), (0, .int x2), (0, .int x3)] [] I o := by
  unfold K_R_hours_46 at h
  have w0 := fun w => at_lp (body := B_R_hours_46 x1) (P := (fun (y : Int32 × Int32) I => At L X (d + 1) 242 46 [(112, .ref 207), (0, .int x1), (0, .int y.1), (0, .int y.2)] [] I o)) (Q := (fun (e : Int32) I => Q e I)) w FU (x2, x3) I r I1 h hq
  refine w0 ?_
  intro y I r I1 h hq
  exact b_R_hours_46 hcs x1 (Q := SQ (fun (y : Int32 × Int32) I => At L X (d + 1) 242 46 [(112, .ref 207), (0, .int x1), (0, .int y.1), (0, .int y.2)] [] I o) (fun (e : Int32) I => Q e I)) (fun _ _ w => w) q0 y I r I1 h hq
def F_R_hours (x1 : Int32) : M (Int32) :=
  bn (wr 207 0 (0 : Int32)) fun _ =>
  bn (F_R_isIn x1 (1 : Int32) (60 : Int32)) fun v1 =>
  (if v1 = 0 then
    rt (-1 : Int32)
  else
    bn (ld 95 208 (0 : Int32)) fun v2 =>
    bn (ld 95 208 (1 : Int32)) fun v3 =>
    dvI (24 : Int32) <|
    (if (990 : Int32) < (v2 + ((v3 + x1) / (24 : Int32))) then
      rt (-1 : Int32)
    else
      K_R_hours_46 x1 (0 : Int32) (0 : Int32)))
set_option maxRecDepth 4000 in
theorem e_s_R_hours_0 (f_R_goesBy : M Int32) (f_R_isIn : Int32 → Int32 → Int32 → M Int32) (f_R_keepsAhead : M Unit) (k_46 : Int32 → Int32 → Int32 → M (Int32)) (x1 : Int32) : wf (β := Int32) L X q_R_hours 1 (cs_R_hours f_R_goesBy f_R_isIn f_R_keepsAhead) [2, 3] [46] (fun pc ls st => mC (Nat.beq pc 46) (mN st <| gI ls 2 fun a2 => gI ls 3 fun a3 => k_46 x1 a2 a3) (fl)) (fun v => match v with | some (_, .int x) => rt x | _ => fl) 49 0 [(112, .ref 207), (0, .int x1), (0, dV), (0, dV)] [] = (bn (wr 207 0 (0 : Int32)) fun _ =>
  bn (f_R_isIn x1 (1 : Int32) (60 : Int32)) fun v1 =>
  (if v1 = 0 then
    rt (-1 : Int32)
  else
    bn (ld 95 208 (0 : Int32)) fun v2 =>
    bn (ld 95 208 (1 : Int32)) fun v3 =>
    dvI (24 : Int32) <|
    (if (990 : Int32) < (v2 + ((v3 + x1) / (24 : Int32))) then
      rt (-1 : Int32)
    else
      k_46 x1 (0 : Int32) (0 : Int32)))) := rfl
theorem s_R_hours_0 {d : Nat} (hcs : AllS L X d (cs_R_hours F_R_goesBy F_R_isIn F_R_keepsAhead)) (x1 : Int32) {o : Option Value × PH} {Q : (Int32) → MI → Prop} (q0 : ∀ v I, Q v I → o = (some (.int v), HH I)) (I : MI) (r : Int32) (I1 : MI) (h : F_R_hours x1 I = some (r, I1)) (hq : Q r I1) : At L X (d + 1) 242 0 [(112, .ref 207), (0, .int x1), (0, dV), (0, dV)] [] I o := by
  refine wf_ok z_R_hours hcs ?_ ?_ _ _ _ _ _ ⟨rfl, trivial, trivial, trivial, trivial⟩ trivial (unm_refl _ _) ((congrFun (e_s_R_hours_0 (L := L) (X := X) F_R_goesBy F_R_isIn F_R_keepsAhead K_R_hours_46 x1) I).trans h)
  · intro pc ls st I2 h1 h2 h3 h
    rcases mC_ok h with ⟨hb, h⟩ | ⟨_, h⟩
    · have e := Nat.eq_of_beq_eq_true hb
      subst e
      obtain ⟨hst, h⟩ := mN_ok h
      subst hst
      obtain ⟨a2, n2, h⟩ := gI_ok h
      obtain ⟨a3, n3, h⟩ := gI_ok h
      refine at_leaf (ls2 := [(112, .ref 207), (0, .int x1), (0, .int a2), (0, .int a3)]) h3.1 ⟨Or.inr ⟨_, (h3.2 0 rfl).trans rfl⟩, Or.inr ⟨_, (h3.2 1 rfl).trans rfl⟩, Or.inr n2, Or.inr n3, trivial⟩ ?_
      exact s_R_hours_46 hcs x1 a2 a3 q0 _ _ _ h hq
    cases h
  · intro v I2 _ h
    split at h
    · cases h; exact q0 _ _ hq
    · cases h
theorem w_R_hours {d : Nat} (hcs : AllS L X d (cs_R_hours F_R_goesBy F_R_isIn F_R_keepsAhead)) : Snd L X (d + 1) 242 2 (W_R_hours F_R_hours) := by
  refine ⟨_, z_R_hours, rfl, fun β args k I r hty hlen h => ?_⟩
  unfold W_R_hours at h
  split at h
  · rename_i t0 a0 u1 a1
    obtain ⟨hb0, h⟩ := mB_ok h
    have e0 := Nat.eq_of_beq_eq_true hb0
    have g0 : okB 112 a0 = true := e0 ▸ hty.1
    have e20 := one_112 g0
    subst e20
    obtain ⟨v, I1, h1, h2⟩ := bn_some h
    refine ⟨gf_obj (c := 12) (by decide) g0, rfl, some (0, .int v), I1, trivial, ?_, h2⟩
    exact s_R_hours_0 hcs a1  (Q := fun w I => w = v ∧ I = I1) (fun w I q => by obtain ⟨rfl, rfl⟩ := q; rfl) I v I1 h1 ⟨rfl, rfl⟩
  · cases h
theorem S_R_hours {d : Nat} (hd : 8 ≤ d) : Snd L X d 242 2 (W_R_hours F_R_hours) := by
  obtain ⟨e, rfl⟩ : ∃ e, d = e + 1 := ⟨d - 1, by omega⟩
  exact w_R_hours ⟨S_R_goesBy (by omega), S_R_isIn (by omega), S_R_keepsAhead (by omega), trivial⟩
set_option maxRecDepth 100000 in
theorem z_R_kept : pT[326]? = some (q_R_kept, 2, 2, 1, 12) := rfl
def W_R_kept (F : Int32 → M Int32) : CSem := fun _ args k => match args with
  | [(t0, .ref a0), (_, .int a1)] => mB (Nat.beq t0 112) <| bn (F a1) fun v => k (some (0, .int v))
  | _ => fl
def cs_R_kept : List (Nat × Nat × CSem) := []
def F_R_kept (x1 : Int32) : M (Int32) :=
  bn (rd 207 76) fun v1 =>
  bn (wr 207 76 (v1 + (1 : Int32))) fun _ =>
  bn (rd 207 74) fun v2 =>
  (if v2 = 0 then
    bn (rd 207 76) fun v4 =>
    bn (ld 2400 253 (v4 - (1 : Int32))) fun v5 =>
    rt v5
  else
    bn (rd 207 76) fun v3 =>
    bn (sr 2400 253 (v3 - (1 : Int32)) x1) fun _ =>
    rt x1)
set_option maxRecDepth 4000 in
theorem e_s_R_kept_0 (x1 : Int32) : wf (β := Int32) L X q_R_kept 1 cs_R_kept [] [] (fun _ _ _ => fl) (fun v => match v with | some (_, .int x) => rt x | _ => fl) 32 0 [(112, .ref 207), (0, .int x1)] [] = (bn (rd 207 76) fun v1 =>
  bn (wr 207 76 (v1 + (1 : Int32))) fun _ =>
  bn (rd 207 74) fun v2 =>
  (if v2 = 0 then
    bn (rd 207 76) fun v4 =>
    bn (ld 2400 253 (v4 - (1 : Int32))) fun v5 =>
    rt v5
  else
    bn (rd 207 76) fun v3 =>
    bn (sr 2400 253 (v3 - (1 : Int32)) x1) fun _ =>
    rt x1)) := rfl
theorem s_R_kept_0 {d : Nat} (hcs : AllS L X d cs_R_kept) (x1 : Int32) {o : Option Value × PH} {Q : (Int32) → MI → Prop} (q0 : ∀ v I, Q v I → o = (some (.int v), HH I)) (I : MI) (r : Int32) (I1 : MI) (h : F_R_kept x1 I = some (r, I1)) (hq : Q r I1) : At L X (d + 1) 326 0 [(112, .ref 207), (0, .int x1)] [] I o := by
  refine wf_ok z_R_kept hcs ?_ ?_ _ _ _ _ _ ⟨rfl, trivial, trivial⟩ trivial (unm_refl _ _) ((congrFun (e_s_R_kept_0 (L := L) (X := X) x1) I).trans h)
  · intro pc ls st I2 h1 h2 h3 h
    cases h
  · intro v I2 _ h
    split at h
    · cases h; exact q0 _ _ hq
    · cases h
theorem w_R_kept {d : Nat} (hcs : AllS L X d cs_R_kept) : Snd L X (d + 1) 326 2 (W_R_kept F_R_kept) := by
  refine ⟨_, z_R_kept, rfl, fun β args k I r hty hlen h => ?_⟩
  unfold W_R_kept at h
  split at h
  · rename_i t0 a0 u1 a1
    obtain ⟨hb0, h⟩ := mB_ok h
    have e0 := Nat.eq_of_beq_eq_true hb0
    have g0 : okB 112 a0 = true := e0 ▸ hty.1
    have e20 := one_112 g0
    subst e20
    obtain ⟨v, I1, h1, h2⟩ := bn_some h
    refine ⟨gf_obj (c := 12) (by decide) g0, rfl, some (0, .int v), I1, trivial, ?_, h2⟩
    exact s_R_kept_0 hcs a1  (Q := fun w I => w = v ∧ I = I1) (fun w I q => by obtain ⟨rfl, rfl⟩ := q; rfl) I v I1 h1 ⟨rfl, rfl⟩
  · cases h
theorem S_R_kept {d : Nat} (hd : 1 ≤ d) : Snd L X d 326 2 (W_R_kept F_R_kept) := by
  obtain ⟨e, rfl⟩ : ∃ e, d = e + 1 := ⟨d - 1, by omega⟩
  exact w_R_kept trivial
set_option maxRecDepth 100000 in
theorem z_R_keepsLaw : pT[329]? = some (q_R_keepsLaw, 1, 2, 0, 12) := rfl
def W_R_keepsLaw (F : M Unit) : CSem := fun _ args k => match args with
  | [(t0, .ref a0)] => mB (Nat.beq t0 112) <| bn (F) fun _ => k none
  | _ => fl
def cs_R_keepsLaw (f_R_kept : Int32 → M Int32) : List (Nat × Nat × CSem) := [(326, 2, W_R_kept f_R_kept)]
def B_R_keepsLaw_18 (y : Int32) : M ((Int32) ⊕ ((Unit))) :=
  (if y < (16 : Int32) then
    bn (ld 48 219 y) fun v1 =>
    bn (F_R_kept v1) fun v2 =>
    bn (sr 48 219 y v2) fun _ =>
    bn (ld 48 220 y) fun v3 =>
    bn (F_R_kept v3) fun v4 =>
    bn (sr 48 220 y v4) fun _ =>
    bn (ld 48 221 y) fun v5 =>
    bn (F_R_kept v5) fun v6 =>
    bn (sr 48 221 y v6) fun _ =>
    bn (ld 48 222 y) fun v7 =>
    bn (F_R_kept v7) fun v8 =>
    bn (sr 48 222 y v8) fun _ =>
    rt (.inl (y + (1 : Int32)))
  else
    rt (.inr ()))
set_option maxRecDepth 4000 in
theorem e_b_R_keepsLaw_18 (f_R_kept : Int32 → M Int32) (y : Int32) : wf (β := (Int32) ⊕ ((Unit))) L X q_R_keepsLaw 0 (cs_R_keepsLaw f_R_kept) [1] [18, 94, 96] (fun pc ls st => mC (Nat.beq pc 18) (mN st <| gI ls 1 fun a1 => rt (.inl a1)) (mC (Nat.beq pc 94) (mN st <| gD ls 1 <| rt (.inr ())) (fl))) (fun _ => fl) 90 18 [(112, .ref 207), (0, .int y)] [] = ((if y < (16 : Int32) then
    bn (ld 48 219 y) fun v1 =>
    bn (f_R_kept v1) fun v2 =>
    bn (sr 48 219 y v2) fun _ =>
    bn (ld 48 220 y) fun v3 =>
    bn (f_R_kept v3) fun v4 =>
    bn (sr 48 220 y v4) fun _ =>
    bn (ld 48 221 y) fun v5 =>
    bn (f_R_kept v5) fun v6 =>
    bn (sr 48 221 y v6) fun _ =>
    bn (ld 48 222 y) fun v7 =>
    bn (f_R_kept v7) fun v8 =>
    bn (sr 48 222 y v8) fun _ =>
    rt (.inl (y + (1 : Int32)))
  else
    rt (.inr ()))) := rfl
theorem b_R_keepsLaw_18 {d : Nat} (hcs : AllS L X d (cs_R_keepsLaw F_R_kept)) {o : Option Value × PH} {Q : ((Int32) ⊕ ((Unit))) → MI → Prop} (qb : ∀ y I, Q (.inl y) I → At L X (d + 1) 329 18 [(112, .ref 207), (0, .int y)] [] I o) (qe94 : ∀ y I, Q (.inr y) I → At L X (d + 1) 329 94 [(112, .ref 207), (0, dV)] [] I o) (y : Int32) (I : MI) (r : (Int32) ⊕ ((Unit))) (I1 : MI) (h : B_R_keepsLaw_18 y I = some (r, I1)) (hq : Q r I1) : At L X (d + 1) 329 18 [(112, .ref 207), (0, .int y)] [] I o := by
  refine wf_ok z_R_keepsLaw hcs ?_ ?_ _ _ _ _ _ ⟨rfl, trivial, trivial⟩ trivial (unm_refl _ _) ((congrFun (e_b_R_keepsLaw_18 (L := L) (X := X) F_R_kept y) I).trans h)
  · intro pc ls st I2 h1 h2 h3 h
    rcases mC_ok h with ⟨hb, h⟩ | ⟨_, h⟩
    · have e := Nat.eq_of_beq_eq_true hb
      subst e
      obtain ⟨hst, h⟩ := mN_ok h
      subst hst
      obtain ⟨a1, n1, h⟩ := gI_ok h
      refine at_leaf (ls2 := [(112, .ref 207), (0, .int a1)]) h3.1 ⟨Or.inr ⟨_, (h3.2 0 rfl).trans rfl⟩, Or.inr n1, trivial⟩ ?_
      cases h; exact qb _ _ hq
    rcases mC_ok h with ⟨hb, h⟩ | ⟨_, h⟩
    · have e := Nat.eq_of_beq_eq_true hb
      subst e
      obtain ⟨hst, h⟩ := mN_ok h
      subst hst
      obtain ⟨n1, h⟩ := gD_ok h
      refine at_leaf (ls2 := [(112, .ref 207), (0, dV)]) h3.1 ⟨Or.inr ⟨_, (h3.2 0 rfl).trans rfl⟩, Or.inl ⟨rfl, n1⟩, trivial⟩ ?_
      cases h; exact qe94 _ _ hq
    cases h
  · intro v I2 _ h
    cases h
def B_R_keepsLaw_96 (y : Int32) : M ((Int32) ⊕ (Unit)) :=
  (if y < (400 : Int32) then
    bn (ld 1200 223 y) fun v1 =>
    bn (F_R_kept v1) fun v2 =>
    bn (sr 1200 223 y v2) fun _ =>
    bn (ld 1200 224 y) fun v3 =>
    bn (F_R_kept v3) fun v4 =>
    bn (sr 1200 224 y v4) fun _ =>
    rt (.inl (y + (1 : Int32)))
  else
    rt (.inr ()))
set_option maxRecDepth 4000 in
theorem e_b_R_keepsLaw_96 (f_R_kept : Int32 → M Int32) (y : Int32) : wf (β := (Int32) ⊕ (Unit)) L X q_R_keepsLaw 0 (cs_R_keepsLaw f_R_kept) [1] [18, 94, 96] (fun pc ls st => mC (Nat.beq pc 96) (mN st <| gI ls 1 fun a1 => rt (.inl a1)) (fl)) (fun v => match v with | none => rt (.inr ()) | _ => fl) 90 96 [(112, .ref 207), (0, .int y)] [] = ((if y < (400 : Int32) then
    bn (ld 1200 223 y) fun v1 =>
    bn (f_R_kept v1) fun v2 =>
    bn (sr 1200 223 y v2) fun _ =>
    bn (ld 1200 224 y) fun v3 =>
    bn (f_R_kept v3) fun v4 =>
    bn (sr 1200 224 y v4) fun _ =>
    rt (.inl (y + (1 : Int32)))
  else
    rt (.inr ()))) := rfl
theorem b_R_keepsLaw_96 {d : Nat} (hcs : AllS L X d (cs_R_keepsLaw F_R_kept)) {o : Option Value × PH} {Q : ((Int32) ⊕ (Unit)) → MI → Prop} (qb : ∀ y I, Q (.inl y) I → At L X (d + 1) 329 96 [(112, .ref 207), (0, .int y)] [] I o) (qr : ∀ v I, Q (.inr v) I → o = (none, HH I)) (y : Int32) (I : MI) (r : (Int32) ⊕ (Unit)) (I1 : MI) (h : B_R_keepsLaw_96 y I = some (r, I1)) (hq : Q r I1) : At L X (d + 1) 329 96 [(112, .ref 207), (0, .int y)] [] I o := by
  refine wf_ok z_R_keepsLaw hcs ?_ ?_ _ _ _ _ _ ⟨rfl, trivial, trivial⟩ trivial (unm_refl _ _) ((congrFun (e_b_R_keepsLaw_96 (L := L) (X := X) F_R_kept y) I).trans h)
  · intro pc ls st I2 h1 h2 h3 h
    rcases mC_ok h with ⟨hb, h⟩ | ⟨_, h⟩
    · have e := Nat.eq_of_beq_eq_true hb
      subst e
      obtain ⟨hst, h⟩ := mN_ok h
      subst hst
      obtain ⟨a1, n1, h⟩ := gI_ok h
      refine at_leaf (ls2 := [(112, .ref 207), (0, .int a1)]) h3.1 ⟨Or.inr ⟨_, (h3.2 0 rfl).trans rfl⟩, Or.inr n1, trivial⟩ ?_
      cases h; exact qb _ _ hq
    cases h
  · intro v I2 _ h
    split at h
    · cases h; exact qr _ _ hq
    · cases h
def K_R_keepsLaw_96 (x1 : Int32) : M (Unit) :=
  lp (B_R_keepsLaw_96) FU x1
theorem s_R_keepsLaw_96 {d : Nat} (hcs : AllS L X d (cs_R_keepsLaw F_R_kept)) (x1 : Int32) {o : Option Value × PH} {Q : (Unit) → MI → Prop} (q0 : ∀ v I, Q v I → o = (none, HH I)) (I : MI) (r : Unit) (I1 : MI) (h : K_R_keepsLaw_96 x1 I = some (r, I1)) (hq : Q r I1) : At L X (d + 1) 329 96 [(112, .ref 207), (0, .int x1)] [] I o := by
  unfold K_R_keepsLaw_96 at h
  have w0 := fun w => at_lp (body := B_R_keepsLaw_96) (P := (fun (y : Int32) I => At L X (d + 1) 329 96 [(112, .ref 207), (0, .int y)] [] I o)) (Q := (fun (e : Unit) I => Q e I)) w FU x1 I r I1 h hq
  refine w0 ?_
  intro y I r I1 h hq
  exact b_R_keepsLaw_96 hcs (Q := SQ (fun (y : Int32) I => At L X (d + 1) 329 96 [(112, .ref 207), (0, .int y)] [] I o) (fun (e : Unit) I => Q e I)) (fun _ _ w => w) q0 y I r I1 h hq
def K_R_keepsLaw_94 : M (Unit) :=
  K_R_keepsLaw_96 (0 : Int32)
set_option maxRecDepth 4000 in
theorem e_s_R_keepsLaw_94 (f_R_kept : Int32 → M Int32) (k_96 : Int32 → M (Unit)) : wf (β := Unit) L X q_R_keepsLaw 0 (cs_R_keepsLaw f_R_kept) [1] [18, 94, 96] (fun pc ls st => mC (Nat.beq pc 96) (mN st <| gI ls 1 fun a1 => k_96 a1) (fl)) (fun v => match v with | none => rt () | _ => fl) 90 94 [(112, .ref 207), (0, dV)] [] = (k_96 (0 : Int32)) := rfl
theorem s_R_keepsLaw_94 {d : Nat} (hcs : AllS L X d (cs_R_keepsLaw F_R_kept)) {o : Option Value × PH} {Q : (Unit) → MI → Prop} (q0 : ∀ v I, Q v I → o = (none, HH I)) (I : MI) (r : Unit) (I1 : MI) (h : K_R_keepsLaw_94 I = some (r, I1)) (hq : Q r I1) : At L X (d + 1) 329 94 [(112, .ref 207), (0, dV)] [] I o := by
  refine wf_ok z_R_keepsLaw hcs ?_ ?_ _ _ _ _ _ ⟨rfl, trivial, trivial⟩ trivial (unm_refl _ _) ((congrFun (e_s_R_keepsLaw_94 (L := L) (X := X) F_R_kept K_R_keepsLaw_96) I).trans h)
  · intro pc ls st I2 h1 h2 h3 h
    rcases mC_ok h with ⟨hb, h⟩ | ⟨_, h⟩
    · have e := Nat.eq_of_beq_eq_true hb
      subst e
      obtain ⟨hst, h⟩ := mN_ok h
      subst hst
      obtain ⟨a1, n1, h⟩ := gI_ok h
      refine at_leaf (ls2 := [(112, .ref 207), (0, .int a1)]) h3.1 ⟨Or.inr ⟨_, (h3.2 0 rfl).trans rfl⟩, Or.inr n1, trivial⟩ ?_
      exact s_R_keepsLaw_96 hcs a1 q0 _ _ _ h hq
    cases h
  · intro v I2 _ h
    split at h
    · cases h; exact q0 _ _ hq
    · cases h
def K_R_keepsLaw_18 (x1 : Int32) : M (Unit) :=
  bn (lp (B_R_keepsLaw_18) FU x1) fun e => K_R_keepsLaw_94
theorem s_R_keepsLaw_18 {d : Nat} (hcs : AllS L X d (cs_R_keepsLaw F_R_kept)) (x1 : Int32) {o : Option Value × PH} {Q : (Unit) → MI → Prop} (q0 : ∀ v I, Q v I → o = (none, HH I)) (I : MI) (r : Unit) (I1 : MI) (h : K_R_keepsLaw_18 x1 I = some (r, I1)) (hq : Q r I1) : At L X (d + 1) 329 18 [(112, .ref 207), (0, .int x1)] [] I o := by
  unfold K_R_keepsLaw_18 at h
  obtain ⟨e, I2, h1, h2⟩ := bn_some h
  have w0 := fun w => at_lp (body := B_R_keepsLaw_18) (P := (fun (y : Int32) I => At L X (d + 1) 329 18 [(112, .ref 207), (0, .int y)] [] I o)) (Q := (fun (e : (Unit)) I => (K_R_keepsLaw_94) I = some (r, I1))) w FU x1 I e I2 h1 h2
  refine w0 ?_
  intro y I r2 I3 h hq2
  exact b_R_keepsLaw_18 hcs (Q := SQ (fun (y : Int32) I => At L X (d + 1) 329 18 [(112, .ref 207), (0, .int y)] [] I o) (fun (e : (Unit)) I => (K_R_keepsLaw_94) I = some (r, I1))) (fun _ _ w => w) (fun y I w => s_R_keepsLaw_94 hcs q0 _ _ _ w hq) y I r2 I3 h hq2
def F_R_keepsLaw : M (Unit) :=
  bn (ld 2 218 (0 : Int32)) fun v1 =>
  bn (F_R_kept v1) fun v2 =>
  bn (sr 2 218 (0 : Int32) v2) fun _ =>
  K_R_keepsLaw_18 (0 : Int32)
set_option maxRecDepth 4000 in
theorem e_s_R_keepsLaw_0 (f_R_kept : Int32 → M Int32) (k_18 : Int32 → M (Unit)) : wf (β := Unit) L X q_R_keepsLaw 0 (cs_R_keepsLaw f_R_kept) [1] [18, 94, 96] (fun pc ls st => mC (Nat.beq pc 18) (mN st <| gI ls 1 fun a1 => k_18 a1) (fl)) (fun v => match v with | none => rt () | _ => fl) 90 0 [(112, .ref 207), (0, dV)] [] = (bn (ld 2 218 (0 : Int32)) fun v1 =>
  bn (f_R_kept v1) fun v2 =>
  bn (sr 2 218 (0 : Int32) v2) fun _ =>
  k_18 (0 : Int32)) := rfl
theorem s_R_keepsLaw_0 {d : Nat} (hcs : AllS L X d (cs_R_keepsLaw F_R_kept)) {o : Option Value × PH} {Q : (Unit) → MI → Prop} (q0 : ∀ v I, Q v I → o = (none, HH I)) (I : MI) (r : Unit) (I1 : MI) (h : F_R_keepsLaw I = some (r, I1)) (hq : Q r I1) : At L X (d + 1) 329 0 [(112, .ref 207), (0, dV)] [] I o := by
  refine wf_ok z_R_keepsLaw hcs ?_ ?_ _ _ _ _ _ ⟨rfl, trivial, trivial⟩ trivial (unm_refl _ _) ((congrFun (e_s_R_keepsLaw_0 (L := L) (X := X) F_R_kept K_R_keepsLaw_18) I).trans h)
  · intro pc ls st I2 h1 h2 h3 h
    rcases mC_ok h with ⟨hb, h⟩ | ⟨_, h⟩
    · have e := Nat.eq_of_beq_eq_true hb
      subst e
      obtain ⟨hst, h⟩ := mN_ok h
      subst hst
      obtain ⟨a1, n1, h⟩ := gI_ok h
      refine at_leaf (ls2 := [(112, .ref 207), (0, .int a1)]) h3.1 ⟨Or.inr ⟨_, (h3.2 0 rfl).trans rfl⟩, Or.inr n1, trivial⟩ ?_
      exact s_R_keepsLaw_18 hcs a1 q0 _ _ _ h hq
    cases h
  · intro v I2 _ h
    split at h
    · cases h; exact q0 _ _ hq
    · cases h
theorem w_R_keepsLaw {d : Nat} (hcs : AllS L X d (cs_R_keepsLaw F_R_kept)) : Snd L X (d + 1) 329 1 (W_R_keepsLaw F_R_keepsLaw) := by
  refine ⟨_, z_R_keepsLaw, rfl, fun β args k I r hty hlen h => ?_⟩
  unfold W_R_keepsLaw at h
  split at h
  · rename_i t0 a0
    obtain ⟨hb0, h⟩ := mB_ok h
    have e0 := Nat.eq_of_beq_eq_true hb0
    have g0 : okB 112 a0 = true := e0 ▸ hty.1
    have e20 := one_112 g0
    subst e20
    obtain ⟨v, I1, h1, h2⟩ := bn_some h
    refine ⟨gf_obj (c := 12) (by decide) g0, rfl, none, I1, trivial, ?_, h2⟩
    exact s_R_keepsLaw_0 hcs   (Q := fun w I => w = v ∧ I = I1) (fun w I q => by obtain ⟨rfl, rfl⟩ := q; rfl) I v I1 h1 ⟨rfl, rfl⟩
  · cases h
theorem S_R_keepsLaw {d : Nat} (hd : 2 ≤ d) : Snd L X d 329 1 (W_R_keepsLaw F_R_keepsLaw) := by
  obtain ⟨e, rfl⟩ : ∃ e, d = e + 1 := ⟨d - 1, by omega⟩
  exact w_R_keepsLaw ⟨S_R_kept (by omega), trivial⟩
set_option maxRecDepth 100000 in
theorem z_R_keepsMany : pT[327]? = some (q_R_keepsMany, 1, 1, 0, 12) := rfl
def W_R_keepsMany (F : M Unit) : CSem := fun _ args k => match args with
  | [(t0, .ref a0)] => mB (Nat.beq t0 112) <| bn (F) fun _ => k none
  | _ => fl
def cs_R_keepsMany (f_R_kept : Int32 → M Int32) : List (Nat × Nat × CSem) := [(326, 2, W_R_kept f_R_kept)]
def F_R_keepsMany : M (Unit) :=
  bn (rd 207 6) fun v1 =>
  bn (F_R_kept v1) fun v2 =>
  bn (wr 207 6 v2) fun _ =>
  bn (rd 207 7) fun v3 =>
  bn (F_R_kept v3) fun v4 =>
  bn (wr 207 7 v4) fun _ =>
  bn (rd 207 36) fun v5 =>
  bn (F_R_kept v5) fun v6 =>
  bn (wr 207 36 v6) fun _ =>
  bn (rd 207 38) fun v7 =>
  bn (F_R_kept v7) fun v8 =>
  bn (wr 207 38 v8) fun _ =>
  bn (rd 207 40) fun v9 =>
  bn (F_R_kept v9) fun v10 =>
  bn (wr 207 40 v10) fun _ =>
  bn (rd 207 44) fun v11 =>
  bn (F_R_kept v11) fun v12 =>
  bn (wr 207 44 v12) fun _ =>
  bn (rd 207 49) fun v13 =>
  bn (F_R_kept v13) fun v14 =>
  bn (wr 207 49 v14) fun _ =>
  bn (rd 207 53) fun v15 =>
  bn (F_R_kept v15) fun v16 =>
  bn (wr 207 53 v16) fun _ =>
  bn (rd 207 57) fun v17 =>
  bn (F_R_kept v17) fun v18 =>
  bn (wr 207 57 v18) fun _ =>
  bn (rd 207 61) fun v19 =>
  bn (F_R_kept v19) fun v20 =>
  bn (wr 207 61 v20) fun _ =>
  bn (rd 207 63) fun v21 =>
  bn (F_R_kept v21) fun v22 =>
  bn (wr 207 63 v22) fun _ =>
  bn (rd 207 67) fun v23 =>
  bn (F_R_kept v23) fun v24 =>
  bn (wr 207 67 v24) fun _ =>
  bn (rd 207 70) fun v25 =>
  bn (F_R_kept v25) fun v26 =>
  bn (wr 207 70 v26) fun _ =>
  bn (ld 2 242 (0 : Int32)) fun v27 =>
  bn (F_R_kept v27) fun v28 =>
  bn (sr 2 242 (0 : Int32) v28) fun _ =>
  bn (ld 2 242 (1 : Int32)) fun v29 =>
  bn (F_R_kept v29) fun v30 =>
  bn (sr 2 242 (1 : Int32) v30) fun _ =>
  rt ()
set_option maxRecDepth 4000 in
theorem e_s_R_keepsMany_0 (f_R_kept : Int32 → M Int32) : wf (β := Unit) L X q_R_keepsMany 0 (cs_R_keepsMany f_R_kept) [] [] (fun _ _ _ => fl) (fun v => match v with | none => rt () | _ => fl) 104 0 [(112, .ref 207)] [] = (bn (rd 207 6) fun v1 =>
  bn (f_R_kept v1) fun v2 =>
  bn (wr 207 6 v2) fun _ =>
  bn (rd 207 7) fun v3 =>
  bn (f_R_kept v3) fun v4 =>
  bn (wr 207 7 v4) fun _ =>
  bn (rd 207 36) fun v5 =>
  bn (f_R_kept v5) fun v6 =>
  bn (wr 207 36 v6) fun _ =>
  bn (rd 207 38) fun v7 =>
  bn (f_R_kept v7) fun v8 =>
  bn (wr 207 38 v8) fun _ =>
  bn (rd 207 40) fun v9 =>
  bn (f_R_kept v9) fun v10 =>
  bn (wr 207 40 v10) fun _ =>
  bn (rd 207 44) fun v11 =>
  bn (f_R_kept v11) fun v12 =>
  bn (wr 207 44 v12) fun _ =>
  bn (rd 207 49) fun v13 =>
  bn (f_R_kept v13) fun v14 =>
  bn (wr 207 49 v14) fun _ =>
  bn (rd 207 53) fun v15 =>
  bn (f_R_kept v15) fun v16 =>
  bn (wr 207 53 v16) fun _ =>
  bn (rd 207 57) fun v17 =>
  bn (f_R_kept v17) fun v18 =>
  bn (wr 207 57 v18) fun _ =>
  bn (rd 207 61) fun v19 =>
  bn (f_R_kept v19) fun v20 =>
  bn (wr 207 61 v20) fun _ =>
  bn (rd 207 63) fun v21 =>
  bn (f_R_kept v21) fun v22 =>
  bn (wr 207 63 v22) fun _ =>
  bn (rd 207 67) fun v23 =>
  bn (f_R_kept v23) fun v24 =>
  bn (wr 207 67 v24) fun _ =>
  bn (rd 207 70) fun v25 =>
  bn (f_R_kept v25) fun v26 =>
  bn (wr 207 70 v26) fun _ =>
  bn (ld 2 242 (0 : Int32)) fun v27 =>
  bn (f_R_kept v27) fun v28 =>
  bn (sr 2 242 (0 : Int32) v28) fun _ =>
  bn (ld 2 242 (1 : Int32)) fun v29 =>
  bn (f_R_kept v29) fun v30 =>
  bn (sr 2 242 (1 : Int32) v30) fun _ =>
  rt ()) := rfl
theorem s_R_keepsMany_0 {d : Nat} (hcs : AllS L X d (cs_R_keepsMany F_R_kept)) {o : Option Value × PH} {Q : (Unit) → MI → Prop} (q0 : ∀ v I, Q v I → o = (none, HH I)) (I : MI) (r : Unit) (I1 : MI) (h : F_R_keepsMany I = some (r, I1)) (hq : Q r I1) : At L X (d + 1) 327 0 [(112, .ref 207)] [] I o := by
  refine wf_ok z_R_keepsMany hcs ?_ ?_ _ _ _ _ _ ⟨rfl, trivial⟩ trivial (unm_refl _ _) ((congrFun (e_s_R_keepsMany_0 (L := L) (X := X) F_R_kept) I).trans h)
  · intro pc ls st I2 h1 h2 h3 h
    cases h
  · intro v I2 _ h
    split at h
    · cases h; exact q0 _ _ hq
    · cases h
theorem w_R_keepsMany {d : Nat} (hcs : AllS L X d (cs_R_keepsMany F_R_kept)) : Snd L X (d + 1) 327 1 (W_R_keepsMany F_R_keepsMany) := by
  refine ⟨_, z_R_keepsMany, rfl, fun β args k I r hty hlen h => ?_⟩
  unfold W_R_keepsMany at h
  split at h
  · rename_i t0 a0
    obtain ⟨hb0, h⟩ := mB_ok h
    have e0 := Nat.eq_of_beq_eq_true hb0
    have g0 : okB 112 a0 = true := e0 ▸ hty.1
    have e20 := one_112 g0
    subst e20
    obtain ⟨v, I1, h1, h2⟩ := bn_some h
    refine ⟨gf_obj (c := 12) (by decide) g0, rfl, none, I1, trivial, ?_, h2⟩
    exact s_R_keepsMany_0 hcs   (Q := fun w I => w = v ∧ I = I1) (fun w I q => by obtain ⟨rfl, rfl⟩ := q; rfl) I v I1 h1 ⟨rfl, rfl⟩
  · cases h
theorem S_R_keepsMany {d : Nat} (hd : 2 ≤ d) : Snd L X d 327 1 (W_R_keepsMany F_R_keepsMany) := by
  obtain ⟨e, rfl⟩ : ∃ e, d = e + 1 := ⟨d - 1, by omega⟩
  exact w_R_keepsMany ⟨S_R_kept (by omega), trivial⟩
set_option maxRecDepth 100000 in
theorem z_R_keepsTold : pT[328]? = some (q_R_keepsTold, 1, 2, 0, 12) := rfl
def W_R_keepsTold (F : M Unit) : CSem := fun _ args k => match args with
  | [(t0, .ref a0)] => mB (Nat.beq t0 112) <| bn (F) fun _ => k none
  | _ => fl
def cs_R_keepsTold (f_R_kept : Int32 → M Int32) : List (Nat × Nat × CSem) := [(326, 2, W_R_kept f_R_kept)]
def B_R_keepsTold_2 (y : Int32) : M ((Int32) ⊕ ((Unit))) :=
  (if y < (18 : Int32) then
    bn (ld 18 212 y) fun v1 =>
    bn (F_R_kept v1) fun v2 =>
    bn (sr 18 212 y v2) fun _ =>
    bn (ld 18 213 y) fun v3 =>
    bn (F_R_kept v3) fun v4 =>
    bn (sr 18 213 y v4) fun _ =>
    bn (ld 18 214 y) fun v5 =>
    bn (F_R_kept v5) fun v6 =>
    bn (sr 18 214 y v6) fun _ =>
    rt (.inl (y + (1 : Int32)))
  else
    rt (.inr ()))
set_option maxRecDepth 4000 in
theorem e_b_R_keepsTold_2 (f_R_kept : Int32 → M Int32) (y : Int32) : wf (β := (Int32) ⊕ ((Unit))) L X q_R_keepsTold 0 (cs_R_keepsTold f_R_kept) [1] [2, 62, 64, 124, 126, 282, 284, 344, 346, 374, 376, 404, 406] (fun pc ls st => mC (Nat.beq pc 2) (mN st <| gI ls 1 fun a1 => rt (.inl a1)) (mC (Nat.beq pc 62) (mN st <| gD ls 1 <| rt (.inr ())) (fl))) (fun _ => fl) 265 2 [(112, .ref 207), (0, .int y)] [] = ((if y < (18 : Int32) then
    bn (ld 18 212 y) fun v1 =>
    bn (f_R_kept v1) fun v2 =>
    bn (sr 18 212 y v2) fun _ =>
    bn (ld 18 213 y) fun v3 =>
    bn (f_R_kept v3) fun v4 =>
    bn (sr 18 213 y v4) fun _ =>
    bn (ld 18 214 y) fun v5 =>
    bn (f_R_kept v5) fun v6 =>
    bn (sr 18 214 y v6) fun _ =>
    rt (.inl (y + (1 : Int32)))
  else
    rt (.inr ()))) := rfl
theorem b_R_keepsTold_2 {d : Nat} (hcs : AllS L X d (cs_R_keepsTold F_R_kept)) {o : Option Value × PH} {Q : ((Int32) ⊕ ((Unit))) → MI → Prop} (qb : ∀ y I, Q (.inl y) I → At L X (d + 1) 328 2 [(112, .ref 207), (0, .int y)] [] I o) (qe62 : ∀ y I, Q (.inr y) I → At L X (d + 1) 328 62 [(112, .ref 207), (0, dV)] [] I o) (y : Int32) (I : MI) (r : (Int32) ⊕ ((Unit))) (I1 : MI) (h : B_R_keepsTold_2 y I = some (r, I1)) (hq : Q r I1) : At L X (d + 1) 328 2 [(112, .ref 207), (0, .int y)] [] I o := by
  refine wf_ok z_R_keepsTold hcs ?_ ?_ _ _ _ _ _ ⟨rfl, trivial, trivial⟩ trivial (unm_refl _ _) ((congrFun (e_b_R_keepsTold_2 (L := L) (X := X) F_R_kept y) I).trans h)
  · intro pc ls st I2 h1 h2 h3 h
    rcases mC_ok h with ⟨hb, h⟩ | ⟨_, h⟩
    · have e := Nat.eq_of_beq_eq_true hb
      subst e
      obtain ⟨hst, h⟩ := mN_ok h
      subst hst
      obtain ⟨a1, n1, h⟩ := gI_ok h
      refine at_leaf (ls2 := [(112, .ref 207), (0, .int a1)]) h3.1 ⟨Or.inr ⟨_, (h3.2 0 rfl).trans rfl⟩, Or.inr n1, trivial⟩ ?_
      cases h; exact qb _ _ hq
    rcases mC_ok h with ⟨hb, h⟩ | ⟨_, h⟩
    · have e := Nat.eq_of_beq_eq_true hb
      subst e
      obtain ⟨hst, h⟩ := mN_ok h
      subst hst
      obtain ⟨n1, h⟩ := gD_ok h
      refine at_leaf (ls2 := [(112, .ref 207), (0, dV)]) h3.1 ⟨Or.inr ⟨_, (h3.2 0 rfl).trans rfl⟩, Or.inl ⟨rfl, n1⟩, trivial⟩ ?_
      cases h; exact qe62 _ _ hq
    cases h
  · intro v I2 _ h
    cases h
def B_R_keepsTold_64 (y : Int32) : M ((Int32) ⊕ ((Unit))) :=
  (if y < (6 : Int32) then
    bn (ld 6 211 y) fun v1 =>
    bn (F_R_kept v1) fun v2 =>
    bn (sr 6 211 y v2) fun _ =>
    bn (ld 6 241 y) fun v3 =>
    bn (F_R_kept v3) fun v4 =>
    bn (sr 6 241 y v4) fun _ =>
    bn (ld 6 250 y) fun v5 =>
    bn (F_R_kept v5) fun v6 =>
    bn (sr 6 250 y v6) fun _ =>
    rt (.inl (y + (1 : Int32)))
  else
    rt (.inr ()))
set_option maxRecDepth 4000 in
theorem e_b_R_keepsTold_64 (f_R_kept : Int32 → M Int32) (y : Int32) : wf (β := (Int32) ⊕ ((Unit))) L X q_R_keepsTold 0 (cs_R_keepsTold f_R_kept) [1] [2, 62, 64, 124, 126, 282, 284, 344, 346, 374, 376, 404, 406] (fun pc ls st => mC (Nat.beq pc 64) (mN st <| gI ls 1 fun a1 => rt (.inl a1)) (mC (Nat.beq pc 124) (mN st <| gD ls 1 <| rt (.inr ())) (fl))) (fun _ => fl) 265 64 [(112, .ref 207), (0, .int y)] [] = ((if y < (6 : Int32) then
    bn (ld 6 211 y) fun v1 =>
    bn (f_R_kept v1) fun v2 =>
    bn (sr 6 211 y v2) fun _ =>
    bn (ld 6 241 y) fun v3 =>
    bn (f_R_kept v3) fun v4 =>
    bn (sr 6 241 y v4) fun _ =>
    bn (ld 6 250 y) fun v5 =>
    bn (f_R_kept v5) fun v6 =>
    bn (sr 6 250 y v6) fun _ =>
    rt (.inl (y + (1 : Int32)))
  else
    rt (.inr ()))) := rfl
theorem b_R_keepsTold_64 {d : Nat} (hcs : AllS L X d (cs_R_keepsTold F_R_kept)) {o : Option Value × PH} {Q : ((Int32) ⊕ ((Unit))) → MI → Prop} (qb : ∀ y I, Q (.inl y) I → At L X (d + 1) 328 64 [(112, .ref 207), (0, .int y)] [] I o) (qe124 : ∀ y I, Q (.inr y) I → At L X (d + 1) 328 124 [(112, .ref 207), (0, dV)] [] I o) (y : Int32) (I : MI) (r : (Int32) ⊕ ((Unit))) (I1 : MI) (h : B_R_keepsTold_64 y I = some (r, I1)) (hq : Q r I1) : At L X (d + 1) 328 64 [(112, .ref 207), (0, .int y)] [] I o := by
  refine wf_ok z_R_keepsTold hcs ?_ ?_ _ _ _ _ _ ⟨rfl, trivial, trivial⟩ trivial (unm_refl _ _) ((congrFun (e_b_R_keepsTold_64 (L := L) (X := X) F_R_kept y) I).trans h)
  · intro pc ls st I2 h1 h2 h3 h
    rcases mC_ok h with ⟨hb, h⟩ | ⟨_, h⟩
    · have e := Nat.eq_of_beq_eq_true hb
      subst e
      obtain ⟨hst, h⟩ := mN_ok h
      subst hst
      obtain ⟨a1, n1, h⟩ := gI_ok h
      refine at_leaf (ls2 := [(112, .ref 207), (0, .int a1)]) h3.1 ⟨Or.inr ⟨_, (h3.2 0 rfl).trans rfl⟩, Or.inr n1, trivial⟩ ?_
      cases h; exact qb _ _ hq
    rcases mC_ok h with ⟨hb, h⟩ | ⟨_, h⟩
    · have e := Nat.eq_of_beq_eq_true hb
      subst e
      obtain ⟨hst, h⟩ := mN_ok h
      subst hst
      obtain ⟨n1, h⟩ := gD_ok h
      refine at_leaf (ls2 := [(112, .ref 207), (0, dV)]) h3.1 ⟨Or.inr ⟨_, (h3.2 0 rfl).trans rfl⟩, Or.inl ⟨rfl, n1⟩, trivial⟩ ?_
      cases h; exact qe124 _ _ hq
    cases h
  · intro v I2 _ h
    cases h
def B_R_keepsTold_126 (y : Int32) : M ((Int32) ⊕ ((Unit))) :=
  (if y < (10 : Int32) then
    bn (ld 20 228 y) fun v1 =>
    bn (F_R_kept v1) fun v2 =>
    bn (sr 20 228 y v2) fun _ =>
    bn (ld 10 231 y) fun v3 =>
    bn (F_R_kept v3) fun v4 =>
    bn (sr 10 231 y v4) fun _ =>
    bn (ld 10 232 y) fun v5 =>
    bn (F_R_kept v5) fun v6 =>
    bn (sr 10 232 y v6) fun _ =>
    bn (ld 10 235 y) fun v7 =>
    bn (F_R_kept v7) fun v8 =>
    bn (sr 10 235 y v8) fun _ =>
    bn (ld 10 236 y) fun v9 =>
    bn (F_R_kept v9) fun v10 =>
    bn (sr 10 236 y v10) fun _ =>
    bn (ld 10 238 y) fun v11 =>
    bn (F_R_kept v11) fun v12 =>
    bn (sr 10 238 y v12) fun _ =>
    bn (ld 10 239 y) fun v13 =>
    bn (F_R_kept v13) fun v14 =>
    bn (sr 10 239 y v14) fun _ =>
    bn (ld 10 240 y) fun v15 =>
    bn (F_R_kept v15) fun v16 =>
    bn (sr 10 240 y v16) fun _ =>
    bn (ld 10 248 y) fun v17 =>
    bn (F_R_kept v17) fun v18 =>
    bn (sr 10 248 y v18) fun _ =>
    rt (.inl (y + (1 : Int32)))
  else
    rt (.inr ()))
set_option maxRecDepth 4000 in
theorem e_b_R_keepsTold_126 (f_R_kept : Int32 → M Int32) (y : Int32) : wf (β := (Int32) ⊕ ((Unit))) L X q_R_keepsTold 0 (cs_R_keepsTold f_R_kept) [1] [2, 62, 64, 124, 126, 282, 284, 344, 346, 374, 376, 404, 406] (fun pc ls st => mC (Nat.beq pc 126) (mN st <| gI ls 1 fun a1 => rt (.inl a1)) (mC (Nat.beq pc 282) (mN st <| gD ls 1 <| rt (.inr ())) (fl))) (fun _ => fl) 265 126 [(112, .ref 207), (0, .int y)] [] = ((if y < (10 : Int32) then
    bn (ld 20 228 y) fun v1 =>
    bn (f_R_kept v1) fun v2 =>
    bn (sr 20 228 y v2) fun _ =>
    bn (ld 10 231 y) fun v3 =>
    bn (f_R_kept v3) fun v4 =>
    bn (sr 10 231 y v4) fun _ =>
    bn (ld 10 232 y) fun v5 =>
    bn (f_R_kept v5) fun v6 =>
    bn (sr 10 232 y v6) fun _ =>
    bn (ld 10 235 y) fun v7 =>
    bn (f_R_kept v7) fun v8 =>
    bn (sr 10 235 y v8) fun _ =>
    bn (ld 10 236 y) fun v9 =>
    bn (f_R_kept v9) fun v10 =>
    bn (sr 10 236 y v10) fun _ =>
    bn (ld 10 238 y) fun v11 =>
    bn (f_R_kept v11) fun v12 =>
    bn (sr 10 238 y v12) fun _ =>
    bn (ld 10 239 y) fun v13 =>
    bn (f_R_kept v13) fun v14 =>
    bn (sr 10 239 y v14) fun _ =>
    bn (ld 10 240 y) fun v15 =>
    bn (f_R_kept v15) fun v16 =>
    bn (sr 10 240 y v16) fun _ =>
    bn (ld 10 248 y) fun v17 =>
    bn (f_R_kept v17) fun v18 =>
    bn (sr 10 248 y v18) fun _ =>
    rt (.inl (y + (1 : Int32)))
  else
    rt (.inr ()))) := rfl
theorem b_R_keepsTold_126 {d : Nat} (hcs : AllS L X d (cs_R_keepsTold F_R_kept)) {o : Option Value × PH} {Q : ((Int32) ⊕ ((Unit))) → MI → Prop} (qb : ∀ y I, Q (.inl y) I → At L X (d + 1) 328 126 [(112, .ref 207), (0, .int y)] [] I o) (qe282 : ∀ y I, Q (.inr y) I → At L X (d + 1) 328 282 [(112, .ref 207), (0, dV)] [] I o) (y : Int32) (I : MI) (r : (Int32) ⊕ ((Unit))) (I1 : MI) (h : B_R_keepsTold_126 y I = some (r, I1)) (hq : Q r I1) : At L X (d + 1) 328 126 [(112, .ref 207), (0, .int y)] [] I o := by
  refine wf_ok z_R_keepsTold hcs ?_ ?_ _ _ _ _ _ ⟨rfl, trivial, trivial⟩ trivial (unm_refl _ _) ((congrFun (e_b_R_keepsTold_126 (L := L) (X := X) F_R_kept y) I).trans h)
  · intro pc ls st I2 h1 h2 h3 h
    rcases mC_ok h with ⟨hb, h⟩ | ⟨_, h⟩
    · have e := Nat.eq_of_beq_eq_true hb
      subst e
      obtain ⟨hst, h⟩ := mN_ok h
      subst hst
      obtain ⟨a1, n1, h⟩ := gI_ok h
      refine at_leaf (ls2 := [(112, .ref 207), (0, .int a1)]) h3.1 ⟨Or.inr ⟨_, (h3.2 0 rfl).trans rfl⟩, Or.inr n1, trivial⟩ ?_
      cases h; exact qb _ _ hq
    rcases mC_ok h with ⟨hb, h⟩ | ⟨_, h⟩
    · have e := Nat.eq_of_beq_eq_true hb
      subst e
      obtain ⟨hst, h⟩ := mN_ok h
      subst hst
      obtain ⟨n1, h⟩ := gD_ok h
      refine at_leaf (ls2 := [(112, .ref 207), (0, dV)]) h3.1 ⟨Or.inr ⟨_, (h3.2 0 rfl).trans rfl⟩, Or.inl ⟨rfl, n1⟩, trivial⟩ ?_
      cases h; exact qe282 _ _ hq
    cases h
  · intro v I2 _ h
    cases h
def B_R_keepsTold_284 (y : Int32) : M ((Int32) ⊕ ((Unit))) :=
  (if y < (8 : Int32) then
    bn (ld 8 244 y) fun v1 =>
    bn (F_R_kept v1) fun v2 =>
    bn (sr 8 244 y v2) fun _ =>
    bn (ld 8 245 y) fun v3 =>
    bn (F_R_kept v3) fun v4 =>
    bn (sr 8 245 y v4) fun _ =>
    bn (ld 8 246 y) fun v5 =>
    bn (F_R_kept v5) fun v6 =>
    bn (sr 8 246 y v6) fun _ =>
    rt (.inl (y + (1 : Int32)))
  else
    rt (.inr ()))
set_option maxRecDepth 4000 in
theorem e_b_R_keepsTold_284 (f_R_kept : Int32 → M Int32) (y : Int32) : wf (β := (Int32) ⊕ ((Unit))) L X q_R_keepsTold 0 (cs_R_keepsTold f_R_kept) [1] [2, 62, 64, 124, 126, 282, 284, 344, 346, 374, 376, 404, 406] (fun pc ls st => mC (Nat.beq pc 284) (mN st <| gI ls 1 fun a1 => rt (.inl a1)) (mC (Nat.beq pc 344) (mN st <| gD ls 1 <| rt (.inr ())) (fl))) (fun _ => fl) 265 284 [(112, .ref 207), (0, .int y)] [] = ((if y < (8 : Int32) then
    bn (ld 8 244 y) fun v1 =>
    bn (f_R_kept v1) fun v2 =>
    bn (sr 8 244 y v2) fun _ =>
    bn (ld 8 245 y) fun v3 =>
    bn (f_R_kept v3) fun v4 =>
    bn (sr 8 245 y v4) fun _ =>
    bn (ld 8 246 y) fun v5 =>
    bn (f_R_kept v5) fun v6 =>
    bn (sr 8 246 y v6) fun _ =>
    rt (.inl (y + (1 : Int32)))
  else
    rt (.inr ()))) := rfl
theorem b_R_keepsTold_284 {d : Nat} (hcs : AllS L X d (cs_R_keepsTold F_R_kept)) {o : Option Value × PH} {Q : ((Int32) ⊕ ((Unit))) → MI → Prop} (qb : ∀ y I, Q (.inl y) I → At L X (d + 1) 328 284 [(112, .ref 207), (0, .int y)] [] I o) (qe344 : ∀ y I, Q (.inr y) I → At L X (d + 1) 328 344 [(112, .ref 207), (0, dV)] [] I o) (y : Int32) (I : MI) (r : (Int32) ⊕ ((Unit))) (I1 : MI) (h : B_R_keepsTold_284 y I = some (r, I1)) (hq : Q r I1) : At L X (d + 1) 328 284 [(112, .ref 207), (0, .int y)] [] I o := by
  refine wf_ok z_R_keepsTold hcs ?_ ?_ _ _ _ _ _ ⟨rfl, trivial, trivial⟩ trivial (unm_refl _ _) ((congrFun (e_b_R_keepsTold_284 (L := L) (X := X) F_R_kept y) I).trans h)
  · intro pc ls st I2 h1 h2 h3 h
    rcases mC_ok h with ⟨hb, h⟩ | ⟨_, h⟩
    · have e := Nat.eq_of_beq_eq_true hb
      subst e
      obtain ⟨hst, h⟩ := mN_ok h
      subst hst
      obtain ⟨a1, n1, h⟩ := gI_ok h
      refine at_leaf (ls2 := [(112, .ref 207), (0, .int a1)]) h3.1 ⟨Or.inr ⟨_, (h3.2 0 rfl).trans rfl⟩, Or.inr n1, trivial⟩ ?_
      cases h; exact qb _ _ hq
    rcases mC_ok h with ⟨hb, h⟩ | ⟨_, h⟩
    · have e := Nat.eq_of_beq_eq_true hb
      subst e
      obtain ⟨hst, h⟩ := mN_ok h
      subst hst
      obtain ⟨n1, h⟩ := gD_ok h
      refine at_leaf (ls2 := [(112, .ref 207), (0, dV)]) h3.1 ⟨Or.inr ⟨_, (h3.2 0 rfl).trans rfl⟩, Or.inl ⟨rfl, n1⟩, trivial⟩ ?_
      cases h; exact qe344 _ _ hq
    cases h
  · intro v I2 _ h
    cases h
def B_R_keepsTold_346 (y : Int32) : M ((Int32) ⊕ ((Unit))) :=
  (if y < (24 : Int32) then
    bn (ld 24 243 y) fun v1 =>
    bn (F_R_kept v1) fun v2 =>
    bn (sr 24 243 y v2) fun _ =>
    rt (.inl (y + (1 : Int32)))
  else
    rt (.inr ()))
set_option maxRecDepth 4000 in
theorem e_b_R_keepsTold_346 (f_R_kept : Int32 → M Int32) (y : Int32) : wf (β := (Int32) ⊕ ((Unit))) L X q_R_keepsTold 0 (cs_R_keepsTold f_R_kept) [1] [2, 62, 64, 124, 126, 282, 284, 344, 346, 374, 376, 404, 406] (fun pc ls st => mC (Nat.beq pc 346) (mN st <| gI ls 1 fun a1 => rt (.inl a1)) (mC (Nat.beq pc 374) (mN st <| gD ls 1 <| rt (.inr ())) (fl))) (fun _ => fl) 265 346 [(112, .ref 207), (0, .int y)] [] = ((if y < (24 : Int32) then
    bn (ld 24 243 y) fun v1 =>
    bn (f_R_kept v1) fun v2 =>
    bn (sr 24 243 y v2) fun _ =>
    rt (.inl (y + (1 : Int32)))
  else
    rt (.inr ()))) := rfl
theorem b_R_keepsTold_346 {d : Nat} (hcs : AllS L X d (cs_R_keepsTold F_R_kept)) {o : Option Value × PH} {Q : ((Int32) ⊕ ((Unit))) → MI → Prop} (qb : ∀ y I, Q (.inl y) I → At L X (d + 1) 328 346 [(112, .ref 207), (0, .int y)] [] I o) (qe374 : ∀ y I, Q (.inr y) I → At L X (d + 1) 328 374 [(112, .ref 207), (0, dV)] [] I o) (y : Int32) (I : MI) (r : (Int32) ⊕ ((Unit))) (I1 : MI) (h : B_R_keepsTold_346 y I = some (r, I1)) (hq : Q r I1) : At L X (d + 1) 328 346 [(112, .ref 207), (0, .int y)] [] I o := by
  refine wf_ok z_R_keepsTold hcs ?_ ?_ _ _ _ _ _ ⟨rfl, trivial, trivial⟩ trivial (unm_refl _ _) ((congrFun (e_b_R_keepsTold_346 (L := L) (X := X) F_R_kept y) I).trans h)
  · intro pc ls st I2 h1 h2 h3 h
    rcases mC_ok h with ⟨hb, h⟩ | ⟨_, h⟩
    · have e := Nat.eq_of_beq_eq_true hb
      subst e
      obtain ⟨hst, h⟩ := mN_ok h
      subst hst
      obtain ⟨a1, n1, h⟩ := gI_ok h
      refine at_leaf (ls2 := [(112, .ref 207), (0, .int a1)]) h3.1 ⟨Or.inr ⟨_, (h3.2 0 rfl).trans rfl⟩, Or.inr n1, trivial⟩ ?_
      cases h; exact qb _ _ hq
    rcases mC_ok h with ⟨hb, h⟩ | ⟨_, h⟩
    · have e := Nat.eq_of_beq_eq_true hb
      subst e
      obtain ⟨hst, h⟩ := mN_ok h
      subst hst
      obtain ⟨n1, h⟩ := gD_ok h
      refine at_leaf (ls2 := [(112, .ref 207), (0, dV)]) h3.1 ⟨Or.inr ⟨_, (h3.2 0 rfl).trans rfl⟩, Or.inl ⟨rfl, n1⟩, trivial⟩ ?_
      cases h; exact qe374 _ _ hq
    cases h
  · intro v I2 _ h
    cases h
def B_R_keepsTold_376 (y : Int32) : M ((Int32) ⊕ ((Unit))) :=
  (if y < (64 : Int32) then
    bn (ld 128 226 y) fun v1 =>
    bn (F_R_kept v1) fun v2 =>
    bn (sr 128 226 y v2) fun _ =>
    rt (.inl (y + (1 : Int32)))
  else
    rt (.inr ()))
set_option maxRecDepth 4000 in
theorem e_b_R_keepsTold_376 (f_R_kept : Int32 → M Int32) (y : Int32) : wf (β := (Int32) ⊕ ((Unit))) L X q_R_keepsTold 0 (cs_R_keepsTold f_R_kept) [1] [2, 62, 64, 124, 126, 282, 284, 344, 346, 374, 376, 404, 406] (fun pc ls st => mC (Nat.beq pc 376) (mN st <| gI ls 1 fun a1 => rt (.inl a1)) (mC (Nat.beq pc 404) (mN st <| gD ls 1 <| rt (.inr ())) (fl))) (fun _ => fl) 265 376 [(112, .ref 207), (0, .int y)] [] = ((if y < (64 : Int32) then
    bn (ld 128 226 y) fun v1 =>
    bn (f_R_kept v1) fun v2 =>
    bn (sr 128 226 y v2) fun _ =>
    rt (.inl (y + (1 : Int32)))
  else
    rt (.inr ()))) := rfl
theorem b_R_keepsTold_376 {d : Nat} (hcs : AllS L X d (cs_R_keepsTold F_R_kept)) {o : Option Value × PH} {Q : ((Int32) ⊕ ((Unit))) → MI → Prop} (qb : ∀ y I, Q (.inl y) I → At L X (d + 1) 328 376 [(112, .ref 207), (0, .int y)] [] I o) (qe404 : ∀ y I, Q (.inr y) I → At L X (d + 1) 328 404 [(112, .ref 207), (0, dV)] [] I o) (y : Int32) (I : MI) (r : (Int32) ⊕ ((Unit))) (I1 : MI) (h : B_R_keepsTold_376 y I = some (r, I1)) (hq : Q r I1) : At L X (d + 1) 328 376 [(112, .ref 207), (0, .int y)] [] I o := by
  refine wf_ok z_R_keepsTold hcs ?_ ?_ _ _ _ _ _ ⟨rfl, trivial, trivial⟩ trivial (unm_refl _ _) ((congrFun (e_b_R_keepsTold_376 (L := L) (X := X) F_R_kept y) I).trans h)
  · intro pc ls st I2 h1 h2 h3 h
    rcases mC_ok h with ⟨hb, h⟩ | ⟨_, h⟩
    · have e := Nat.eq_of_beq_eq_true hb
      subst e
      obtain ⟨hst, h⟩ := mN_ok h
      subst hst
      obtain ⟨a1, n1, h⟩ := gI_ok h
      refine at_leaf (ls2 := [(112, .ref 207), (0, .int a1)]) h3.1 ⟨Or.inr ⟨_, (h3.2 0 rfl).trans rfl⟩, Or.inr n1, trivial⟩ ?_
      cases h; exact qb _ _ hq
    rcases mC_ok h with ⟨hb, h⟩ | ⟨_, h⟩
    · have e := Nat.eq_of_beq_eq_true hb
      subst e
      obtain ⟨hst, h⟩ := mN_ok h
      subst hst
      obtain ⟨n1, h⟩ := gD_ok h
      refine at_leaf (ls2 := [(112, .ref 207), (0, dV)]) h3.1 ⟨Or.inr ⟨_, (h3.2 0 rfl).trans rfl⟩, Or.inl ⟨rfl, n1⟩, trivial⟩ ?_
      cases h; exact qe404 _ _ hq
    cases h
  · intro v I2 _ h
    cases h
def B_R_keepsTold_406 (y : Int32) : M ((Int32) ⊕ (Unit)) :=
  (if y < (80 : Int32) then
    bn (ld 160 227 y) fun v1 =>
    bn (F_R_kept v1) fun v2 =>
    bn (sr 160 227 y v2) fun _ =>
    rt (.inl (y + (1 : Int32)))
  else
    rt (.inr ()))
set_option maxRecDepth 4000 in
theorem e_b_R_keepsTold_406 (f_R_kept : Int32 → M Int32) (y : Int32) : wf (β := (Int32) ⊕ (Unit)) L X q_R_keepsTold 0 (cs_R_keepsTold f_R_kept) [1] [2, 62, 64, 124, 126, 282, 284, 344, 346, 374, 376, 404, 406] (fun pc ls st => mC (Nat.beq pc 406) (mN st <| gI ls 1 fun a1 => rt (.inl a1)) (fl)) (fun v => match v with | none => rt (.inr ()) | _ => fl) 265 406 [(112, .ref 207), (0, .int y)] [] = ((if y < (80 : Int32) then
    bn (ld 160 227 y) fun v1 =>
    bn (f_R_kept v1) fun v2 =>
    bn (sr 160 227 y v2) fun _ =>
    rt (.inl (y + (1 : Int32)))
  else
    rt (.inr ()))) := rfl
theorem b_R_keepsTold_406 {d : Nat} (hcs : AllS L X d (cs_R_keepsTold F_R_kept)) {o : Option Value × PH} {Q : ((Int32) ⊕ (Unit)) → MI → Prop} (qb : ∀ y I, Q (.inl y) I → At L X (d + 1) 328 406 [(112, .ref 207), (0, .int y)] [] I o) (qr : ∀ v I, Q (.inr v) I → o = (none, HH I)) (y : Int32) (I : MI) (r : (Int32) ⊕ (Unit)) (I1 : MI) (h : B_R_keepsTold_406 y I = some (r, I1)) (hq : Q r I1) : At L X (d + 1) 328 406 [(112, .ref 207), (0, .int y)] [] I o := by
  refine wf_ok z_R_keepsTold hcs ?_ ?_ _ _ _ _ _ ⟨rfl, trivial, trivial⟩ trivial (unm_refl _ _) ((congrFun (e_b_R_keepsTold_406 (L := L) (X := X) F_R_kept y) I).trans h)
  · intro pc ls st I2 h1 h2 h3 h
    rcases mC_ok h with ⟨hb, h⟩ | ⟨_, h⟩
    · have e := Nat.eq_of_beq_eq_true hb
      subst e
      obtain ⟨hst, h⟩ := mN_ok h
      subst hst
      obtain ⟨a1, n1, h⟩ := gI_ok h
      refine at_leaf (ls2 := [(112, .ref 207), (0, .int a1)]) h3.1 ⟨Or.inr ⟨_, (h3.2 0 rfl).trans rfl⟩, Or.inr n1, trivial⟩ ?_
      cases h; exact qb _ _ hq
    cases h
  · intro v I2 _ h
    split at h
    · cases h; exact qr _ _ hq
    · cases h
def K_R_keepsTold_406 (x1 : Int32) : M (Unit) :=
  lp (B_R_keepsTold_406) FU x1
theorem s_R_keepsTold_406 {d : Nat} (hcs : AllS L X d (cs_R_keepsTold F_R_kept)) (x1 : Int32) {o : Option Value × PH} {Q : (Unit) → MI → Prop} (q0 : ∀ v I, Q v I → o = (none, HH I)) (I : MI) (r : Unit) (I1 : MI) (h : K_R_keepsTold_406 x1 I = some (r, I1)) (hq : Q r I1) : At L X (d + 1) 328 406 [(112, .ref 207), (0, .int x1)] [] I o := by
  unfold K_R_keepsTold_406 at h
  have w0 := fun w => at_lp (body := B_R_keepsTold_406) (P := (fun (y : Int32) I => At L X (d + 1) 328 406 [(112, .ref 207), (0, .int y)] [] I o)) (Q := (fun (e : Unit) I => Q e I)) w FU x1 I r I1 h hq
  refine w0 ?_
  intro y I r I1 h hq
  exact b_R_keepsTold_406 hcs (Q := SQ (fun (y : Int32) I => At L X (d + 1) 328 406 [(112, .ref 207), (0, .int y)] [] I o) (fun (e : Unit) I => Q e I)) (fun _ _ w => w) q0 y I r I1 h hq
def K_R_keepsTold_404 : M (Unit) :=
  K_R_keepsTold_406 (0 : Int32)
set_option maxRecDepth 4000 in
theorem e_s_R_keepsTold_404 (f_R_kept : Int32 → M Int32) (k_406 : Int32 → M (Unit)) : wf (β := Unit) L X q_R_keepsTold 0 (cs_R_keepsTold f_R_kept) [1] [2, 62, 64, 124, 126, 282, 284, 344, 346, 374, 376, 404, 406] (fun pc ls st => mC (Nat.beq pc 406) (mN st <| gI ls 1 fun a1 => k_406 a1) (fl)) (fun v => match v with | none => rt () | _ => fl) 265 404 [(112, .ref 207), (0, dV)] [] = (k_406 (0 : Int32)) := rfl
theorem s_R_keepsTold_404 {d : Nat} (hcs : AllS L X d (cs_R_keepsTold F_R_kept)) {o : Option Value × PH} {Q : (Unit) → MI → Prop} (q0 : ∀ v I, Q v I → o = (none, HH I)) (I : MI) (r : Unit) (I1 : MI) (h : K_R_keepsTold_404 I = some (r, I1)) (hq : Q r I1) : At L X (d + 1) 328 404 [(112, .ref 207), (0, dV)] [] I o := by
  refine wf_ok z_R_keepsTold hcs ?_ ?_ _ _ _ _ _ ⟨rfl, trivial, trivial⟩ trivial (unm_refl _ _) ((congrFun (e_s_R_keepsTold_404 (L := L) (X := X) F_R_kept K_R_keepsTold_406) I).trans h)
  · intro pc ls st I2 h1 h2 h3 h
    rcases mC_ok h with ⟨hb, h⟩ | ⟨_, h⟩
    · have e := Nat.eq_of_beq_eq_true hb
      subst e
      obtain ⟨hst, h⟩ := mN_ok h
      subst hst
      obtain ⟨a1, n1, h⟩ := gI_ok h
      refine at_leaf (ls2 := [(112, .ref 207), (0, .int a1)]) h3.1 ⟨Or.inr ⟨_, (h3.2 0 rfl).trans rfl⟩, Or.inr n1, trivial⟩ ?_
      exact s_R_keepsTold_406 hcs a1 q0 _ _ _ h hq
    cases h
  · intro v I2 _ h
    split at h
    · cases h; exact q0 _ _ hq
    · cases h
def K_R_keepsTold_376 (x1 : Int32) : M (Unit) :=
  bn (lp (B_R_keepsTold_376) FU x1) fun e => K_R_keepsTold_404
theorem s_R_keepsTold_376 {d : Nat} (hcs : AllS L X d (cs_R_keepsTold F_R_kept)) (x1 : Int32) {o : Option Value × PH} {Q : (Unit) → MI → Prop} (q0 : ∀ v I, Q v I → o = (none, HH I)) (I : MI) (r : Unit) (I1 : MI) (h : K_R_keepsTold_376 x1 I = some (r, I1)) (hq : Q r I1) : At L X (d + 1) 328 376 [(112, .ref 207), (0, .int x1)] [] I o := by
  unfold K_R_keepsTold_376 at h
  obtain ⟨e, I2, h1, h2⟩ := bn_some h
  have w0 := fun w => at_lp (body := B_R_keepsTold_376) (P := (fun (y : Int32) I => At L X (d + 1) 328 376 [(112, .ref 207), (0, .int y)] [] I o)) (Q := (fun (e : (Unit)) I => (K_R_keepsTold_404) I = some (r, I1))) w FU x1 I e I2 h1 h2
  refine w0 ?_
  intro y I r2 I3 h hq2
  exact b_R_keepsTold_376 hcs (Q := SQ (fun (y : Int32) I => At L X (d + 1) 328 376 [(112, .ref 207), (0, .int y)] [] I o) (fun (e : (Unit)) I => (K_R_keepsTold_404) I = some (r, I1))) (fun _ _ w => w) (fun y I w => s_R_keepsTold_404 hcs q0 _ _ _ w hq) y I r2 I3 h hq2
def K_R_keepsTold_374 : M (Unit) :=
  K_R_keepsTold_376 (0 : Int32)
set_option maxRecDepth 4000 in
theorem e_s_R_keepsTold_374 (f_R_kept : Int32 → M Int32) (k_376 : Int32 → M (Unit)) : wf (β := Unit) L X q_R_keepsTold 0 (cs_R_keepsTold f_R_kept) [1] [2, 62, 64, 124, 126, 282, 284, 344, 346, 374, 376, 404, 406] (fun pc ls st => mC (Nat.beq pc 376) (mN st <| gI ls 1 fun a1 => k_376 a1) (fl)) (fun v => match v with | none => rt () | _ => fl) 265 374 [(112, .ref 207), (0, dV)] [] = (k_376 (0 : Int32)) := rfl
theorem s_R_keepsTold_374 {d : Nat} (hcs : AllS L X d (cs_R_keepsTold F_R_kept)) {o : Option Value × PH} {Q : (Unit) → MI → Prop} (q0 : ∀ v I, Q v I → o = (none, HH I)) (I : MI) (r : Unit) (I1 : MI) (h : K_R_keepsTold_374 I = some (r, I1)) (hq : Q r I1) : At L X (d + 1) 328 374 [(112, .ref 207), (0, dV)] [] I o := by
  refine wf_ok z_R_keepsTold hcs ?_ ?_ _ _ _ _ _ ⟨rfl, trivial, trivial⟩ trivial (unm_refl _ _) ((congrFun (e_s_R_keepsTold_374 (L := L) (X := X) F_R_kept K_R_keepsTold_376) I).trans h)
  · intro pc ls st I2 h1 h2 h3 h
    rcases mC_ok h with ⟨hb, h⟩ | ⟨_, h⟩
    · have e := Nat.eq_of_beq_eq_true hb
      subst e
      obtain ⟨hst, h⟩ := mN_ok h
      subst hst
      obtain ⟨a1, n1, h⟩ := gI_ok h
      refine at_leaf (ls2 := [(112, .ref 207), (0, .int a1)]) h3.1 ⟨Or.inr ⟨_, (h3.2 0 rfl).trans rfl⟩, Or.inr n1, trivial⟩ ?_
      exact s_R_keepsTold_376 hcs a1 q0 _ _ _ h hq
    cases h
  · intro v I2 _ h
    split at h
    · cases h; exact q0 _ _ hq
    · cases h
def K_R_keepsTold_346 (x1 : Int32) : M (Unit) :=
  bn (lp (B_R_keepsTold_346) FU x1) fun e => K_R_keepsTold_374
theorem s_R_keepsTold_346 {d : Nat} (hcs : AllS L X d (cs_R_keepsTold F_R_kept)) (x1 : Int32) {o : Option Value × PH} {Q : (Unit) → MI → Prop} (q0 : ∀ v I, Q v I → o = (none, HH I)) (I : MI) (r : Unit) (I1 : MI) (h : K_R_keepsTold_346 x1 I = some (r, I1)) (hq : Q r I1) : At L X (d + 1) 328 346 [(112, .ref 207), (0, .int x1)] [] I o := by
  unfold K_R_keepsTold_346 at h
  obtain ⟨e, I2, h1, h2⟩ := bn_some h
  have w0 := fun w => at_lp (body := B_R_keepsTold_346) (P := (fun (y : Int32) I => At L X (d + 1) 328 346 [(112, .ref 207), (0, .int y)] [] I o)) (Q := (fun (e : (Unit)) I => (K_R_keepsTold_374) I = some (r, I1))) w FU x1 I e I2 h1 h2
  refine w0 ?_
  intro y I r2 I3 h hq2
  exact b_R_keepsTold_346 hcs (Q := SQ (fun (y : Int32) I => At L X (d + 1) 328 346 [(112, .ref 207), (0, .int y)] [] I o) (fun (e : (Unit)) I => (K_R_keepsTold_374) I = some (r, I1))) (fun _ _ w => w) (fun y I w => s_R_keepsTold_374 hcs q0 _ _ _ w hq) y I r2 I3 h hq2
def K_R_keepsTold_344 : M (Unit) :=
  K_R_keepsTold_346 (0 : Int32)
set_option maxRecDepth 4000 in
theorem e_s_R_keepsTold_344 (f_R_kept : Int32 → M Int32) (k_346 : Int32 → M (Unit)) : wf (β := Unit) L X q_R_keepsTold 0 (cs_R_keepsTold f_R_kept) [1] [2, 62, 64, 124, 126, 282, 284, 344, 346, 374, 376, 404, 406] (fun pc ls st => mC (Nat.beq pc 346) (mN st <| gI ls 1 fun a1 => k_346 a1) (fl)) (fun v => match v with | none => rt () | _ => fl) 265 344 [(112, .ref 207), (0, dV)] [] = (k_346 (0 : Int32)) := rfl
theorem s_R_keepsTold_344 {d : Nat} (hcs : AllS L X d (cs_R_keepsTold F_R_kept)) {o : Option Value × PH} {Q : (Unit) → MI → Prop} (q0 : ∀ v I, Q v I → o = (none, HH I)) (I : MI) (r : Unit) (I1 : MI) (h : K_R_keepsTold_344 I = some (r, I1)) (hq : Q r I1) : At L X (d + 1) 328 344 [(112, .ref 207), (0, dV)] [] I o := by
  refine wf_ok z_R_keepsTold hcs ?_ ?_ _ _ _ _ _ ⟨rfl, trivial, trivial⟩ trivial (unm_refl _ _) ((congrFun (e_s_R_keepsTold_344 (L := L) (X := X) F_R_kept K_R_keepsTold_346) I).trans h)
  · intro pc ls st I2 h1 h2 h3 h
    rcases mC_ok h with ⟨hb, h⟩ | ⟨_, h⟩
    · have e := Nat.eq_of_beq_eq_true hb
      subst e
      obtain ⟨hst, h⟩ := mN_ok h
      subst hst
      obtain ⟨a1, n1, h⟩ := gI_ok h
      refine at_leaf (ls2 := [(112, .ref 207), (0, .int a1)]) h3.1 ⟨Or.inr ⟨_, (h3.2 0 rfl).trans rfl⟩, Or.inr n1, trivial⟩ ?_
      exact s_R_keepsTold_346 hcs a1 q0 _ _ _ h hq
    cases h
  · intro v I2 _ h
    split at h
    · cases h; exact q0 _ _ hq
    · cases h
def K_R_keepsTold_284 (x1 : Int32) : M (Unit) :=
  bn (lp (B_R_keepsTold_284) FU x1) fun e => K_R_keepsTold_344
theorem s_R_keepsTold_284 {d : Nat} (hcs : AllS L X d (cs_R_keepsTold F_R_kept)) (x1 : Int32) {o : Option Value × PH} {Q : (Unit) → MI → Prop} (q0 : ∀ v I, Q v I → o = (none, HH I)) (I : MI) (r : Unit) (I1 : MI) (h : K_R_keepsTold_284 x1 I = some (r, I1)) (hq : Q r I1) : At L X (d + 1) 328 284 [(112, .ref 207), (0, .int x1)] [] I o := by
  unfold K_R_keepsTold_284 at h
  obtain ⟨e, I2, h1, h2⟩ := bn_some h
  have w0 := fun w => at_lp (body := B_R_keepsTold_284) (P := (fun (y : Int32) I => At L X (d + 1) 328 284 [(112, .ref 207), (0, .int y)] [] I o)) (Q := (fun (e : (Unit)) I => (K_R_keepsTold_344) I = some (r, I1))) w FU x1 I e I2 h1 h2
  refine w0 ?_
  intro y I r2 I3 h hq2
  exact b_R_keepsTold_284 hcs (Q := SQ (fun (y : Int32) I => At L X (d + 1) 328 284 [(112, .ref 207), (0, .int y)] [] I o) (fun (e : (Unit)) I => (K_R_keepsTold_344) I = some (r, I1))) (fun _ _ w => w) (fun y I w => s_R_keepsTold_344 hcs q0 _ _ _ w hq) y I r2 I3 h hq2
def K_R_keepsTold_282 : M (Unit) :=
  K_R_keepsTold_284 (0 : Int32)
set_option maxRecDepth 4000 in
theorem e_s_R_keepsTold_282 (f_R_kept : Int32 → M Int32) (k_284 : Int32 → M (Unit)) : wf (β := Unit) L X q_R_keepsTold 0 (cs_R_keepsTold f_R_kept) [1] [2, 62, 64, 124, 126, 282, 284, 344, 346, 374, 376, 404, 406] (fun pc ls st => mC (Nat.beq pc 284) (mN st <| gI ls 1 fun a1 => k_284 a1) (fl)) (fun v => match v with | none => rt () | _ => fl) 265 282 [(112, .ref 207), (0, dV)] [] = (k_284 (0 : Int32)) := rfl
theorem s_R_keepsTold_282 {d : Nat} (hcs : AllS L X d (cs_R_keepsTold F_R_kept)) {o : Option Value × PH} {Q : (Unit) → MI → Prop} (q0 : ∀ v I, Q v I → o = (none, HH I)) (I : MI) (r : Unit) (I1 : MI) (h : K_R_keepsTold_282 I = some (r, I1)) (hq : Q r I1) : At L X (d + 1) 328 282 [(112, .ref 207), (0, dV)] [] I o := by
  refine wf_ok z_R_keepsTold hcs ?_ ?_ _ _ _ _ _ ⟨rfl, trivial, trivial⟩ trivial (unm_refl _ _) ((congrFun (e_s_R_keepsTold_282 (L := L) (X := X) F_R_kept K_R_keepsTold_284) I).trans h)
  · intro pc ls st I2 h1 h2 h3 h
    rcases mC_ok h with ⟨hb, h⟩ | ⟨_, h⟩
    · have e := Nat.eq_of_beq_eq_true hb
      subst e
      obtain ⟨hst, h⟩ := mN_ok h
      subst hst
      obtain ⟨a1, n1, h⟩ := gI_ok h
      refine at_leaf (ls2 := [(112, .ref 207), (0, .int a1)]) h3.1 ⟨Or.inr ⟨_, (h3.2 0 rfl).trans rfl⟩, Or.inr n1, trivial⟩ ?_
      exact s_R_keepsTold_284 hcs a1 q0 _ _ _ h hq
    cases h
  · intro v I2 _ h
    split at h
    · cases h; exact q0 _ _ hq
    · cases h
def K_R_keepsTold_126 (x1 : Int32) : M (Unit) :=
  bn (lp (B_R_keepsTold_126) FU x1) fun e => K_R_keepsTold_282
theorem s_R_keepsTold_126 {d : Nat} (hcs : AllS L X d (cs_R_keepsTold F_R_kept)) (x1 : Int32) {o : Option Value × PH} {Q : (Unit) → MI → Prop} (q0 : ∀ v I, Q v I → o = (none, HH I)) (I : MI) (r : Unit) (I1 : MI) (h : K_R_keepsTold_126 x1 I = some (r, I1)) (hq : Q r I1) : At L X (d + 1) 328 126 [(112, .ref 207), (0, .int x1)] [] I o := by
  unfold K_R_keepsTold_126 at h
  obtain ⟨e, I2, h1, h2⟩ := bn_some h
  have w0 := fun w => at_lp (body := B_R_keepsTold_126) (P := (fun (y : Int32) I => At L X (d + 1) 328 126 [(112, .ref 207), (0, .int y)] [] I o)) (Q := (fun (e : (Unit)) I => (K_R_keepsTold_282) I = some (r, I1))) w FU x1 I e I2 h1 h2
  refine w0 ?_
  intro y I r2 I3 h hq2
  exact b_R_keepsTold_126 hcs (Q := SQ (fun (y : Int32) I => At L X (d + 1) 328 126 [(112, .ref 207), (0, .int y)] [] I o) (fun (e : (Unit)) I => (K_R_keepsTold_282) I = some (r, I1))) (fun _ _ w => w) (fun y I w => s_R_keepsTold_282 hcs q0 _ _ _ w hq) y I r2 I3 h hq2
def K_R_keepsTold_124 : M (Unit) :=
  K_R_keepsTold_126 (0 : Int32)
set_option maxRecDepth 4000 in
theorem e_s_R_keepsTold_124 (f_R_kept : Int32 → M Int32) (k_126 : Int32 → M (Unit)) : wf (β := Unit) L X q_R_keepsTold 0 (cs_R_keepsTold f_R_kept) [1] [2, 62, 64, 124, 126, 282, 284, 344, 346, 374, 376, 404, 406] (fun pc ls st => mC (Nat.beq pc 126) (mN st <| gI ls 1 fun a1 => k_126 a1) (fl)) (fun v => match v with | none => rt () | _ => fl) 265 124 [(112, .ref 207), (0, dV)] [] = (k_126 (0 : Int32)) := rfl
theorem s_R_keepsTold_124 {d : Nat} (hcs : AllS L X d (cs_R_keepsTold F_R_kept)) {o : Option Value × PH} {Q : (Unit) → MI → Prop} (q0 : ∀ v I, Q v I → o = (none, HH I)) (I : MI) (r : Unit) (I1 : MI) (h : K_R_keepsTold_124 I = some (r, I1)) (hq : Q r I1) : At L X (d + 1) 328 124 [(112, .ref 207), (0, dV)] [] I o := by
  refine wf_ok z_R_keepsTold hcs ?_ ?_ _ _ _ _ _ ⟨rfl, trivial, trivial⟩ trivial (unm_refl _ _) ((congrFun (e_s_R_keepsTold_124 (L := L) (X := X) F_R_kept K_R_keepsTold_126) I).trans h)
  · intro pc ls st I2 h1 h2 h3 h
    rcases mC_ok h with ⟨hb, h⟩ | ⟨_, h⟩
    · have e := Nat.eq_of_beq_eq_true hb
      subst e
      obtain ⟨hst, h⟩ := mN_ok h
      subst hst
      obtain ⟨a1, n1, h⟩ := gI_ok h
      refine at_leaf (ls2 := [(112, .ref 207), (0, .int a1)]) h3.1 ⟨Or.inr ⟨_, (h3.2 0 rfl).trans rfl⟩, Or.inr n1, trivial⟩ ?_
      exact s_R_keepsTold_126 hcs a1 q0 _ _ _ h hq
    cases h
  · intro v I2 _ h
    split at h
    · cases h; exact q0 _ _ hq
    · cases h
def K_R_keepsTold_64 (x1 : Int32) : M (Unit) :=
  bn (lp (B_R_keepsTold_64) FU x1) fun e => K_R_keepsTold_124
theorem s_R_keepsTold_64 {d : Nat} (hcs : AllS L X d (cs_R_keepsTold F_R_kept)) (x1 : Int32) {o : Option Value × PH} {Q : (Unit) → MI → Prop} (q0 : ∀ v I, Q v I → o = (none, HH I)) (I : MI) (r : Unit) (I1 : MI) (h : K_R_keepsTold_64 x1 I = some (r, I1)) (hq : Q r I1) : At L X (d + 1) 328 64 [(112, .ref 207), (0, .int x1)] [] I o := by
  unfold K_R_keepsTold_64 at h
  obtain ⟨e, I2, h1, h2⟩ := bn_some h
  have w0 := fun w => at_lp (body := B_R_keepsTold_64) (P := (fun (y : Int32) I => At L X (d + 1) 328 64 [(112, .ref 207), (0, .int y)] [] I o)) (Q := (fun (e : (Unit)) I => (K_R_keepsTold_124) I = some (r, I1))) w FU x1 I e I2 h1 h2
  refine w0 ?_
  intro y I r2 I3 h hq2
  exact b_R_keepsTold_64 hcs (Q := SQ (fun (y : Int32) I => At L X (d + 1) 328 64 [(112, .ref 207), (0, .int y)] [] I o) (fun (e : (Unit)) I => (K_R_keepsTold_124) I = some (r, I1))) (fun _ _ w => w) (fun y I w => s_R_keepsTold_124 hcs q0 _ _ _ w hq) y I r2 I3 h hq2
def K_R_keepsTold_62 : M (Unit) :=
  K_R_keepsTold_64 (0 : Int32)
set_option maxRecDepth 4000 in
theorem e_s_R_keepsTold_62 (f_R_kept : Int32 → M Int32) (k_64 : Int32 → M (Unit)) : wf (β := Unit) L X q_R_keepsTold 0 (cs_R_keepsTold f_R_kept) [1] [2, 62, 64, 124, 126, 282, 284, 344, 346, 374, 376, 404, 406] (fun pc ls st => mC (Nat.beq pc 64) (mN st <| gI ls 1 fun a1 => k_64 a1) (fl)) (fun v => match v with | none => rt () | _ => fl) 265 62 [(112, .ref 207), (0, dV)] [] = (k_64 (0 : Int32)) := rfl
theorem s_R_keepsTold_62 {d : Nat} (hcs : AllS L X d (cs_R_keepsTold F_R_kept)) {o : Option Value × PH} {Q : (Unit) → MI → Prop} (q0 : ∀ v I, Q v I → o = (none, HH I)) (I : MI) (r : Unit) (I1 : MI) (h : K_R_keepsTold_62 I = some (r, I1)) (hq : Q r I1) : At L X (d + 1) 328 62 [(112, .ref 207), (0, dV)] [] I o := by
  refine wf_ok z_R_keepsTold hcs ?_ ?_ _ _ _ _ _ ⟨rfl, trivial, trivial⟩ trivial (unm_refl _ _) ((congrFun (e_s_R_keepsTold_62 (L := L) (X := X) F_R_kept K_R_keepsTold_64) I).trans h)
  · intro pc ls st I2 h1 h2 h3 h
    rcases mC_ok h with ⟨hb, h⟩ | ⟨_, h⟩
    · have e := Nat.eq_of_beq_eq_true hb
      subst e
      obtain ⟨hst, h⟩ := mN_ok h
      subst hst
      obtain ⟨a1, n1, h⟩ := gI_ok h
      refine at_leaf (ls2 := [(112, .ref 207), (0, .int a1)]) h3.1 ⟨Or.inr ⟨_, (h3.2 0 rfl).trans rfl⟩, Or.inr n1, trivial⟩ ?_
      exact s_R_keepsTold_64 hcs a1 q0 _ _ _ h hq
    cases h
  · intro v I2 _ h
    split at h
    · cases h; exact q0 _ _ hq
    · cases h
def K_R_keepsTold_2 (x1 : Int32) : M (Unit) :=
  bn (lp (B_R_keepsTold_2) FU x1) fun e => K_R_keepsTold_62
theorem s_R_keepsTold_2 {d : Nat} (hcs : AllS L X d (cs_R_keepsTold F_R_kept)) (x1 : Int32) {o : Option Value × PH} {Q : (Unit) → MI → Prop} (q0 : ∀ v I, Q v I → o = (none, HH I)) (I : MI) (r : Unit) (I1 : MI) (h : K_R_keepsTold_2 x1 I = some (r, I1)) (hq : Q r I1) : At L X (d + 1) 328 2 [(112, .ref 207), (0, .int x1)] [] I o := by
  unfold K_R_keepsTold_2 at h
  obtain ⟨e, I2, h1, h2⟩ := bn_some h
  have w0 := fun w => at_lp (body := B_R_keepsTold_2) (P := (fun (y : Int32) I => At L X (d + 1) 328 2 [(112, .ref 207), (0, .int y)] [] I o)) (Q := (fun (e : (Unit)) I => (K_R_keepsTold_62) I = some (r, I1))) w FU x1 I e I2 h1 h2
  refine w0 ?_
  intro y I r2 I3 h hq2
  exact b_R_keepsTold_2 hcs (Q := SQ (fun (y : Int32) I => At L X (d + 1) 328 2 [(112, .ref 207), (0, .int y)] [] I o) (fun (e : (Unit)) I => (K_R_keepsTold_62) I = some (r, I1))) (fun _ _ w => w) (fun y I w => s_R_keepsTold_62 hcs q0 _ _ _ w hq) y I r2 I3 h hq2
def F_R_keepsTold : M (Unit) :=
  K_R_keepsTold_2 (0 : Int32)
set_option maxRecDepth 4000 in
theorem e_s_R_keepsTold_0 (f_R_kept : Int32 → M Int32) (k_2 : Int32 → M (Unit)) : wf (β := Unit) L X q_R_keepsTold 0 (cs_R_keepsTold f_R_kept) [1] [2, 62, 64, 124, 126, 282, 284, 344, 346, 374, 376, 404, 406] (fun pc ls st => mC (Nat.beq pc 2) (mN st <| gI ls 1 fun a1 => k_2 a1) (fl)) (fun v => match v with | none => rt () | _ => fl) 265 0 [(112, .ref 207), (0, dV)] [] = (k_2 (0 : Int32)) := rfl
theorem s_R_keepsTold_0 {d : Nat} (hcs : AllS L X d (cs_R_keepsTold F_R_kept)) {o : Option Value × PH} {Q : (Unit) → MI → Prop} (q0 : ∀ v I, Q v I → o = (none, HH I)) (I : MI) (r : Unit) (I1 : MI) (h : F_R_keepsTold I = some (r, I1)) (hq : Q r I1) : At L X (d + 1) 328 0 [(112, .ref 207), (0, dV)] [] I o := by
  refine wf_ok z_R_keepsTold hcs ?_ ?_ _ _ _ _ _ ⟨rfl, trivial, trivial⟩ trivial (unm_refl _ _) ((congrFun (e_s_R_keepsTold_0 (L := L) (X := X) F_R_kept K_R_keepsTold_2) I).trans h)
  · intro pc ls st I2 h1 h2 h3 h
    rcases mC_ok h with ⟨hb, h⟩ | ⟨_, h⟩
    · have e := Nat.eq_of_beq_eq_true hb
      subst e
      obtain ⟨hst, h⟩ := mN_ok h
      subst hst
      obtain ⟨a1, n1, h⟩ := gI_ok h
      refine at_leaf (ls2 := [(112, .ref 207), (0, .int a1)]) h3.1 ⟨Or.inr ⟨_, (h3.2 0 rfl).trans rfl⟩, Or.inr n1, trivial⟩ ?_
      exact s_R_keepsTold_2 hcs a1 q0 _ _ _ h hq
    cases h
  · intro v I2 _ h
    split at h
    · cases h; exact q0 _ _ hq
    · cases h
theorem w_R_keepsTold {d : Nat} (hcs : AllS L X d (cs_R_keepsTold F_R_kept)) : Snd L X (d + 1) 328 1 (W_R_keepsTold F_R_keepsTold) := by
  refine ⟨_, z_R_keepsTold, rfl, fun β args k I r hty hlen h => ?_⟩
  unfold W_R_keepsTold at h
  split at h
  · rename_i t0 a0
    obtain ⟨hb0, h⟩ := mB_ok h
    have e0 := Nat.eq_of_beq_eq_true hb0
    have g0 : okB 112 a0 = true := e0 ▸ hty.1
    have e20 := one_112 g0
    subst e20
    obtain ⟨v, I1, h1, h2⟩ := bn_some h
    refine ⟨gf_obj (c := 12) (by decide) g0, rfl, none, I1, trivial, ?_, h2⟩
    exact s_R_keepsTold_0 hcs   (Q := fun w I => w = v ∧ I = I1) (fun w I q => by obtain ⟨rfl, rfl⟩ := q; rfl) I v I1 h1 ⟨rfl, rfl⟩
  · cases h
theorem S_R_keepsTold {d : Nat} (hd : 2 ≤ d) : Snd L X d 328 1 (W_R_keepsTold F_R_keepsTold) := by
  obtain ⟨e, rfl⟩ : ∃ e, d = e + 1 := ⟨d - 1, by omega⟩
  exact w_R_keepsTold ⟨S_R_kept (by omega), trivial⟩
end
