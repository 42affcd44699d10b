/-! methods (written by wip/tools/gen_f.py) -/
section
variable {L : Nat} {X : Nat → Int32}
set_option maxRecDepth 100000 in
theorem z_R_image : pT[325]? = some (q_R_image, 2, 3, 2, 12) := rfl
def W_R_image (F : Int32 → M Int32) : CSem := fun _ args k => match args with
  | [(t0, .ref a0), (_, .int a1)] => mB (Nat.beq t0 112) <| bn (F a1) fun v => k (some (0, .int v))
  | _ => fl
def cs_R_image (f_R_keepsLaw : M Unit) (f_R_keepsMany : M Unit) (f_R_keepsTold : M Unit) (f_R_kept : Int32 → M Int32) : List (Nat × Nat × CSem) := [(329, 1, W_R_keepsLaw f_R_keepsLaw), (327, 1, W_R_keepsMany f_R_keepsMany), (328, 1, W_R_keepsTold f_R_keepsTold), (326, 2, W_R_kept f_R_kept)]
def B_R_image_35 (x1 : Int32) (y : Int32) : M ((Int32) ⊕ ((Unit))) :=
  (if y < (95 : Int32) then
    bn (ld 95 208 y) fun v1 =>
    bn (F_R_kept v1) fun v2 =>
    bn (sr 95 208 y v2) fun _ =>
    rt (.inl (y + (1 : Int32)))
  else
    rt (.inr ()))
set_option maxRecDepth 4000 in
theorem e_b_R_image_35 (f_R_keepsLaw : M Unit) (f_R_keepsMany : M Unit) (f_R_keepsTold : M Unit) (f_R_kept : Int32 → M Int32) (x1 : Int32) (y : Int32) : wf (β := (Int32) ⊕ ((Unit))) L X q_R_image 2 (cs_R_image f_R_keepsLaw f_R_keepsMany f_R_keepsTold f_R_kept) [2] [35, 63, 73, 102] (fun pc ls st => mC (Nat.beq pc 35) (mN st <| gI ls 2 fun a2 => rt (.inl a2)) (mC (Nat.beq pc 63) (mN st <| gD ls 2 <| rt (.inr ())) (fl))) (fun _ => fl) 71 35 [(112, .ref 207), (0, .int x1), (0, .int y)] [] = ((if y < (95 : Int32) then
    bn (ld 95 208 y) fun v1 =>
    bn (f_R_kept v1) fun v2 =>
    bn (sr 95 208 y v2) fun _ =>
    rt (.inl (y + (1 : Int32)))
  else
    rt (.inr ()))) := rfl
theorem b_R_image_35 {d : Nat} (hcs : AllS L X d (cs_R_image F_R_keepsLaw F_R_keepsMany F_R_keepsTold F_R_kept)) (x1 : Int32) {o : Option Value × PH} {Q : ((Int32) ⊕ ((Unit))) → MI → Prop} (qb : ∀ y I, Q (.inl y) I → At L X (d + 1) 325 35 [(112, .ref 207), (0, .int x1), (0, .int y)] [] I o) (qe63 : ∀ y I, Q (.inr y) I → At L X (d + 1) 325 63 [(112, .ref 207), (0, .int x1), (0, dV)] [] I o) (y : Int32) (I : MI) (r : (Int32) ⊕ ((Unit))) (I1 : MI) (h : B_R_image_35 x1 y I = some (r, I1)) (hq : Q r I1) : At L X (d + 1) 325 35 [(112, .ref 207), (0, .int x1), (0, .int y)] [] I o := by
  refine wf_ok z_R_image hcs ?_ ?_ _ _ _ _ _ ⟨rfl, trivial, trivial, trivial⟩ trivial (unm_refl _ _) ((congrFun (e_b_R_image_35 (L := L) (X := X) F_R_keepsLaw F_R_keepsMany F_R_keepsTold F_R_kept x1 y) I).trans h)
  · intro pc ls st I2 h1 h2 h3 h
    rcases mC_ok h with ⟨hb, h⟩ | ⟨_, h⟩
    · have e := Nat.eq_of_beq_eq_true hb
      subst e
      obtain ⟨hst, h⟩ := mN_ok h
      subst hst
      obtain ⟨a2, n2, h⟩ := gI_ok h
      refine at_leaf (ls2 := [(112, .ref 207), (0, .int x1), (0, .int a2)]) h3.1 ⟨Or.inr ⟨_, (h3.2 0 rfl).trans rfl⟩, Or.inr ⟨_, (h3.2 1 rfl).trans rfl⟩, Or.inr n2, trivial⟩ ?_
      cases h; exact qb _ _ hq
    rcases mC_ok h with ⟨hb, h⟩ | ⟨_, h⟩
    · have e := Nat.eq_of_beq_eq_true hb
      subst e
      obtain ⟨hst, h⟩ := mN_ok h
      subst hst
      obtain ⟨n2, h⟩ := gD_ok h
      refine at_leaf (ls2 := [(112, .ref 207), (0, .int x1), (0, dV)]) h3.1 ⟨Or.inr ⟨_, (h3.2 0 rfl).trans rfl⟩, Or.inr ⟨_, (h3.2 1 rfl).trans rfl⟩, Or.inl ⟨rfl, n2⟩, trivial⟩ ?_
      cases h; exact qe63 _ _ hq
    cases h
  · intro v I2 _ h
    cases h
def B_R_image_73 (x1 : Int32) (y : Int32) : M ((Int32) ⊕ ((Unit))) :=
  (if y < (750 : Int32) then
    bn (ld 750 215 y) fun v1 =>
    bn (F_R_kept v1) fun v2 =>
    bn (sr 750 215 y v2) fun _ =>
    rt (.inl (y + (1 : Int32)))
  else
    rt (.inr ()))
set_option maxRecDepth 4000 in
theorem e_b_R_image_73 (f_R_keepsLaw : M Unit) (f_R_keepsMany : M Unit) (f_R_keepsTold : M Unit) (f_R_kept : Int32 → M Int32) (x1 : Int32) (y : Int32) : wf (β := (Int32) ⊕ ((Unit))) L X q_R_image 2 (cs_R_image f_R_keepsLaw f_R_keepsMany f_R_keepsTold f_R_kept) [2] [35, 63, 73, 102] (fun pc ls st => mC (Nat.beq pc 73) (mN st <| gI ls 2 fun a2 => rt (.inl a2)) (mC (Nat.beq pc 102) (mN st <| gD ls 2 <| rt (.inr ())) (fl))) (fun _ => fl) 71 73 [(112, .ref 207), (0, .int x1), (0, .int y)] [] = ((if y < (750 : Int32) then
    bn (ld 750 215 y) fun v1 =>
    bn (f_R_kept v1) fun v2 =>
    bn (sr 750 215 y v2) fun _ =>
    rt (.inl (y + (1 : Int32)))
  else
    rt (.inr ()))) := rfl
theorem b_R_image_73 {d : Nat} (hcs : AllS L X d (cs_R_image F_R_keepsLaw F_R_keepsMany F_R_keepsTold F_R_kept)) (x1 : Int32) {o : Option Value × PH} {Q : ((Int32) ⊕ ((Unit))) → MI → Prop} (qb : ∀ y I, Q (.inl y) I → At L X (d + 1) 325 73 [(112, .ref 207), (0, .int x1), (0, .int y)] [] I o) (qe102 : ∀ y I, Q (.inr y) I → At L X (d + 1) 325 102 [(112, .ref 207), (0, .int x1), (0, dV)] [] I o) (y : Int32) (I : MI) (r : (Int32) ⊕ ((Unit))) (I1 : MI) (h : B_R_image_73 x1 y I = some (r, I1)) (hq : Q r I1) : At L X (d + 1) 325 73 [(112, .ref 207), (0, .int x1), (0, .int y)] [] I o := by
  refine wf_ok z_R_image hcs ?_ ?_ _ _ _ _ _ ⟨rfl, trivial, trivial, trivial⟩ trivial (unm_refl _ _) ((congrFun (e_b_R_image_73 (L := L) (X := X) F_R_keepsLaw F_R_keepsMany F_R_keepsTold F_R_kept x1 y) I).trans h)
  · intro pc ls st I2 h1 h2 h3 h
    rcases mC_ok h with ⟨hb, h⟩ | ⟨_, h⟩
    · have e := Nat.eq_of_beq_eq_true hb
      subst e
      obtain ⟨hst, h⟩ := mN_ok h
      subst hst
      obtain ⟨a2, n2, h⟩ := gI_ok h
      refine at_leaf (ls2 := [(112, .ref 207), (0, .int x1), (0, .int a2)]) h3.1 ⟨Or.inr ⟨_, (h3.2 0 rfl).trans rfl⟩, Or.inr ⟨_, (h3.2 1 rfl).trans rfl⟩, Or.inr n2, trivial⟩ ?_
      cases h; exact qb _ _ hq
    rcases mC_ok h with ⟨hb, h⟩ | ⟨_, h⟩
    · have e := Nat.eq_of_beq_eq_true hb
      subst e
      obtain ⟨hst, h⟩ := mN_ok h
      subst hst
      obtain ⟨n2, h⟩ := gD_ok h
      refine at_leaf (ls2 := [(112, .ref 207), (0, .int x1), (0, dV)]) h3.1 ⟨Or.inr ⟨_, (h3.2 0 rfl).trans rfl⟩, Or.inr ⟨_, (h3.2 1 rfl).trans rfl⟩, Or.inl ⟨rfl, n2⟩, trivial⟩ ?_
      cases h; exact qe102 _ _ hq
    cases h
  · intro v I2 _ h
    cases h
def K_R_image_102 (x1 : Int32) : M (Int32) :=
  bn (F_R_keepsLaw) fun _ =>
  (if x1 = 0 then
    bn (wr 207 3 (0 : Int32)) fun _ =>
    bn (gdZ (1 : Int32)) fun _ => rt (1 : Int32)
  else
    bn (gdZ (1 : Int32)) fun _ => rt (1 : Int32))
set_option maxRecDepth 4000 in
theorem e_s_R_image_102 (f_R_keepsLaw : M Unit) (f_R_keepsMany : M Unit) (f_R_keepsTold : M Unit) (f_R_kept : Int32 → M Int32) (x1 : Int32) : wf (β := Int32) L X q_R_image 2 (cs_R_image f_R_keepsLaw f_R_keepsMany f_R_keepsTold f_R_kept) [] [35, 63, 73, 102] (fun _ _ _ => fl) (fun v => match v with | some (_, .int x) => rt x | _ => fl) 71 102 [(112, .ref 207), (0, .int x1), (0, dV)] [] = (bn (f_R_keepsLaw) fun _ =>
  (if x1 = 0 then
    bn (wr 207 3 (0 : Int32)) fun _ =>
    bn (gdZ (1 : Int32)) fun _ => rt (1 : Int32)
  else
    bn (gdZ (1 : Int32)) fun _ => rt (1 : Int32))) := rfl
theorem s_R_image_102 {d : Nat} (hcs : AllS L X d (cs_R_image F_R_keepsLaw F_R_keepsMany F_R_keepsTold F_R_kept)) (x1 : Int32) {o : Option Value × PH} {Q : (Int32) → MI → Prop} (q0 : ∀ v I, Q v I → o = (some (.int v), HH I)) (I : MI) (r : Int32) (I1 : MI) (h : K_R_image_102 x1 I = some (r, I1)) (hq : Q r I1) : At L X (d + 1) 325 102 [(112, .ref 207), (0, .int x1), (0, dV)] [] I o := by
  refine wf_ok z_R_image hcs ?_ ?_ _ _ _ _ _ ⟨rfl, trivial, trivial, trivial⟩ trivial (unm_refl _ _) ((congrFun (e_s_R_image_102 (L := L) (X := X) F_R_keepsLaw F_R_keepsMany F_R_keepsTold F_R_kept x1) I).trans h)
  · intro pc ls st I2 h1 h2 h3 h
    cases h
  · intro v I2 _ h
    split at h
    · cases h; exact q0 _ _ hq
    · cases h
def K_R_image_73 (x1 : Int32) (x2 : Int32) : M (Int32) :=
  bn (lp (B_R_image_73 x1) FU x2) fun e => K_R_image_102 x1
theorem s_R_image_73 {d : Nat} (hcs : AllS L X d (cs_R_image F_R_keepsLaw F_R_keepsMany F_R_keepsTold F_R_kept)) (x1 : Int32) (x2 : Int32) {o : Option Value × PH} {Q : (Int32) → MI → Prop} (q0 : ∀ v I, Q v I → o = (some (.int v), HH I)) (I : MI) (r : Int32) (I1 : MI) (h : K_R_image_73 x1 x2 I = some (r, I1)) (hq : Q r I1) : At L X (d + 1) 325 73 [(112, .ref 207), (0, .int x1), (0, .int x2)] [] I o := by
  unfold K_R_image_73 at h
  obtain ⟨e, I2, h1, h2⟩ := bn_some h
  have w0 := fun w => at_lp (body := B_R_image_73 x1) (P := (fun (y : Int32) I => At L X (d + 1) 325 73 [(112, .ref 207), (0, .int x1), (0, .int y)] [] I o)) (Q := (fun (e : (Unit)) I => (K_R_image_102 x1) I = some (r, I1))) w FU x2 I e I2 h1 h2
  refine w0 ?_
  intro y I r2 I3 h hq2
  exact b_R_image_73 hcs x1 (Q := SQ (fun (y : Int32) I => At L X (d + 1) 325 73 [(112, .ref 207), (0, .int x1), (0, .int y)] [] I o) (fun (e : (Unit)) I => (K_R_image_102 x1) I = some (r, I1))) (fun _ _ w => w) (fun y I w => s_R_image_102 hcs x1 q0 _ _ _ w hq) y I r2 I3 h hq2
def K_R_image_63 (x1 : Int32) : M (Int32) :=
  bn (F_R_keepsMany) fun _ =>
  bn (F_R_keepsTold) fun _ =>
  K_R_image_73 x1 (0 : Int32)
set_option maxRecDepth 4000 in
theorem e_s_R_image_63 (f_R_keepsLaw : M Unit) (f_R_keepsMany : M Unit) (f_R_keepsTold : M Unit) (f_R_kept : Int32 → M Int32) (k_73 : Int32 → Int32 → M (Int32)) (x1 : Int32) : wf (β := Int32) L X q_R_image 2 (cs_R_image f_R_keepsLaw f_R_keepsMany f_R_keepsTold f_R_kept) [2] [35, 63, 73, 102] (fun pc ls st => mC (Nat.beq pc 73) (mN st <| gI ls 2 fun a2 => k_73 x1 a2) (fl)) (fun v => match v with | some (_, .int x) => rt x | _ => fl) 71 63 [(112, .ref 207), (0, .int x1), (0, dV)] [] = (bn (f_R_keepsMany) fun _ =>
  bn (f_R_keepsTold) fun _ =>
  k_73 x1 (0 : Int32)) := rfl
theorem s_R_image_63 {d : Nat} (hcs : AllS L X d (cs_R_image F_R_keepsLaw F_R_keepsMany F_R_keepsTold F_R_kept)) (x1 : Int32) {o : Option Value × PH} {Q : (Int32) → MI → Prop} (q0 : ∀ v I, Q v I → o = (some (.int v), HH I)) (I : MI) (r : Int32) (I1 : MI) (h : K_R_image_63 x1 I = some (r, I1)) (hq : Q r I1) : At L X (d + 1) 325 63 [(112, .ref 207), (0, .int x1), (0, dV)] [] I o := by
  refine wf_ok z_R_image hcs ?_ ?_ _ _ _ _ _ ⟨rfl, trivial, trivial, trivial⟩ trivial (unm_refl _ _) ((congrFun (e_s_R_image_63 (L := L) (X := X) F_R_keepsLaw F_R_keepsMany F_R_keepsTold F_R_kept K_R_image_73 x1) I).trans h)
  · intro pc ls st I2 h1 h2 h3 h
    rcases mC_ok h with ⟨hb, h⟩ | ⟨_, h⟩
    · have e := Nat.eq_of_beq_eq_true hb
      subst e
      obtain ⟨hst, h⟩ := mN_ok h
      subst hst
      obtain ⟨a2, n2, h⟩ := gI_ok h
      refine at_leaf (ls2 := [(112, .ref 207), (0, .int x1), (0, .int a2)]) h3.1 ⟨Or.inr ⟨_, (h3.2 0 rfl).trans rfl⟩, Or.inr ⟨_, (h3.2 1 rfl).trans rfl⟩, Or.inr n2, trivial⟩ ?_
      exact s_R_image_73 hcs x1 a2 q0 _ _ _ h hq
    cases h
  · intro v I2 _ h
    split at h
    · cases h; exact q0 _ _ hq
    · cases h
def K_R_image_35 (x1 : Int32) (x2 : Int32) : M (Int32) :=
  bn (lp (B_R_image_35 x1) FU x2) fun e => K_R_image_63 x1
theorem s_R_image_35 {d : Nat} (hcs : AllS L X d (cs_R_image F_R_keepsLaw F_R_keepsMany F_R_keepsTold F_R_kept)) (x1 : Int32) (x2 : Int32) {o : Option Value × PH} {Q : (Int32) → MI → Prop} (q0 : ∀ v I, Q v I → o = (some (.int v), HH I)) (I : MI) (r : Int32) (I1 : MI) (h : K_R_image_35 x1 x2 I = some (r, I1)) (hq : Q r I1) : At L X (d + 1) 325 35 [(112, .ref 207), (0, .int x1), (0, .int x2)] [] I o := by
  unfold K_R_image_35 at h
  obtain ⟨e, I2, h1, h2⟩ := bn_some h
  have w0 := fun w => at_lp (body := B_R_image_35 x1) (P := (fun (y : Int32) I => At L X (d + 1) 325 35 [(112, .ref 207), (0, .int x1), (0, .int y)] [] I o)) (Q := (fun (e : (Unit)) I => (K_R_image_63 x1) I = some (r, I1))) w FU x2 I e I2 h1 h2
  refine w0 ?_
  intro y I r2 I3 h hq2
  exact b_R_image_35 hcs x1 (Q := SQ (fun (y : Int32) I => At L X (d + 1) 325 35 [(112, .ref 207), (0, .int x1), (0, .int y)] [] I o) (fun (e : (Unit)) I => (K_R_image_63 x1) I = some (r, I1))) (fun _ _ w => w) (fun y I w => s_R_image_63 hcs x1 q0 _ _ _ w hq) y I r2 I3 h hq2
def F_R_image (x1 : Int32) : M (Int32) :=
  bn (wr 207 0 (0 : Int32)) fun _ =>
  (if x1 = 0 then
    bn (rd 207 75) fun v1 =>
    (if v1 = 0 then
      bn (gdZ (0 : Int32)) fun _ => rt (0 : Int32)
    else
      bn (wrZ 207 74 x1) fun _ =>
      bn (wrZ 207 75 (1 : Int32)) fun _ =>
      bn (wr 207 76 (0 : Int32)) fun _ =>
      K_R_image_35 x1 (0 : Int32))
  else
    bn (wrZ 207 74 x1) fun _ =>
    bn (wrZ 207 75 (1 : Int32)) fun _ =>
    bn (wr 207 76 (0 : Int32)) fun _ =>
    K_R_image_35 x1 (0 : Int32))
set_option maxRecDepth 4000 in
theorem e_s_R_image_0 (f_R_keepsLaw : M Unit) (f_R_keepsMany : M Unit) (f_R_keepsTold : M Unit) (f_R_kept : Int32 → M Int32) (k_35 : Int32 → Int32 → M (Int32)) (x1 : Int32) : wf (β := Int32) L X q_R_image 2 (cs_R_image f_R_keepsLaw f_R_keepsMany f_R_keepsTold f_R_kept) [2] [35, 63, 73, 102] (fun pc ls st => mC (Nat.beq pc 35) (mN st <| gI ls 2 fun a2 => k_35 x1 a2) (fl)) (fun v => match v with | some (_, .int x) => rt x | _ => fl) 71 0 [(112, .ref 207), (0, .int x1), (0, dV)] [] = (bn (wr 207 0 (0 : Int32)) fun _ =>
  (if x1 = 0 then
    bn (rd 207 75) fun v1 =>
    (if v1 = 0 then
      bn (gdZ (0 : Int32)) fun _ => rt (0 : Int32)
    else
      bn (wrZ 207 74 x1) fun _ =>
      bn (wrZ 207 75 (1 : Int32)) fun _ =>
      bn (wr 207 76 (0 : Int32)) fun _ =>
      k_35 x1 (0 : Int32))
  else
    bn (wrZ 207 74 x1) fun _ =>
    bn (wrZ 207 75 (1 : Int32)) fun _ =>
    bn (wr 207 76 (0 : Int32)) fun _ =>
    k_35 x1 (0 : Int32))) := rfl
theorem s_R_image_0 {d : Nat} (hcs : AllS L X d (cs_R_image F_R_keepsLaw F_R_keepsMany F_R_keepsTold F_R_kept)) (x1 : Int32) {o : Option Value × PH} {Q : (Int32) → MI → Prop} (q0 : ∀ v I, Q v I → o = (some (.int v), HH I)) (I : MI) (r : Int32) (I1 : MI) (h : F_R_image x1 I = some (r, I1)) (hq : Q r I1) : At L X (d + 1) 325 0 [(112, .ref 207), (0, .int x1), (0, dV)] [] I o := by
  refine wf_ok z_R_image hcs ?_ ?_ _ _ _ _ _ ⟨rfl, trivial, trivial, trivial⟩ trivial (unm_refl _ _) ((congrFun (e_s_R_image_0 (L := L) (X := X) F_R_keepsLaw F_R_keepsMany F_R_keepsTold F_R_kept K_R_image_35 x1) I).trans h)
  · intro pc ls st I2 h1 h2 h3 h
    rcases mC_ok h with ⟨hb, h⟩ | ⟨_, h⟩
    · have e := Nat.eq_of_beq_eq_true hb
      subst e
      obtain ⟨hst, h⟩ := mN_ok h
      subst hst
      obtain ⟨a2, n2, h⟩ := gI_ok h
      refine at_leaf (ls2 := [(112, .ref 207), (0, .int x1), (0, .int a2)]) h3.1 ⟨Or.inr ⟨_, (h3.2 0 rfl).trans rfl⟩, Or.inr ⟨_, (h3.2 1 rfl).trans rfl⟩, Or.inr n2, trivial⟩ ?_
      exact s_R_image_35 hcs x1 a2 q0 _ _ _ h hq
    cases h
  · intro v I2 _ h
    split at h
    · cases h; exact q0 _ _ hq
    · cases h
theorem w_R_image {d : Nat} (hcs : AllS L X d (cs_R_image F_R_keepsLaw F_R_keepsMany F_R_keepsTold F_R_kept)) : Snd L X (d + 1) 325 2 (W_R_image F_R_image) := by
  refine ⟨_, z_R_image, rfl, fun β args k I r hty hlen h => ?_⟩
  unfold W_R_image at h
  split at h
  · rename_i t0 a0 u1 a1
    obtain ⟨hb0, h⟩ := mB_ok h
    have e0 := Nat.eq_of_beq_eq_true hb0
    have g0 : okB 112 a0 = true := e0 ▸ hty.1
    have e20 := one_112 g0
    subst e20
    obtain ⟨v, I1, h1, h2⟩ := bn_some h
    refine ⟨gf_obj (c := 12) (by decide) g0, rfl, some (0, .int v), I1, trivial, ?_, h2⟩
    exact s_R_image_0 hcs a1  (Q := fun w I => w = v ∧ I = I1) (fun w I q => by obtain ⟨rfl, rfl⟩ := q; rfl) I v I1 h1 ⟨rfl, rfl⟩
  · cases h
theorem S_R_image {d : Nat} (hd : 3 ≤ d) : Snd L X d 325 2 (W_R_image F_R_image) := by
  obtain ⟨e, rfl⟩ : ∃ e, d = e + 1 := ⟨d - 1, by omega⟩
  exact w_R_image ⟨S_R_keepsLaw (by omega), S_R_keepsMany (by omega), S_R_keepsTold (by omega), S_R_kept (by omega), trivial⟩
set_option maxRecDepth 100000 in
theorem z_R_keeps : pT[280]? = some (q_R_keeps, 2, 3, 1, 12) := rfl
def W_R_keeps (F : Int32 → M Int32) : CSem := fun _ args k => match args with
  | [(t0, .ref a0), (_, .int a1)] => mB (Nat.beq t0 112) <| bn (F a1) fun v => k (some (0, .int v))
  | _ => fl
def cs_R_keeps (f_R_endsThought : M Unit) (f_R_goesBy : M Int32) (f_R_isAlias : Int32 → M Int32) (f_R_isStruck : Int32 → M Int32) (f_R_thinks : M Unit) : List (Nat × Nat × CSem) := [(279, 1, W_R_endsThought f_R_endsThought), (244, 1, W_R_goesBy f_R_goesBy), (201, 2, W_R_isAlias f_R_isAlias), (246, 2, W_R_isStruck f_R_isStruck), (278, 1, W_R_thinks f_R_thinks)]
def B_R_keeps_21 (x1 : Int32) (y : Int32) : M ((Int32) ⊕ ((Int32))) :=
  (if (100 : Int32) < y then
    rt (.inr y)
  else
    bn (F_R_isStruck x1) fun v1 =>
    (if v1 = 0 then
      bn (F_R_goesBy) fun v2 =>
      rt (.inl (y + (1 : Int32)))
    else
      rt (.inr y)))
set_option maxRecDepth 4000 in
theorem e_b_R_keeps_21 (f_R_endsThought : M Unit) (f_R_goesBy : M Int32) (f_R_isAlias : Int32 → M Int32) (f_R_isStruck : Int32 → M Int32) (f_R_thinks : M Unit) (x1 : Int32) (y : Int32) : wf (β := (Int32) ⊕ ((Int32))) L X q_R_keeps 1 (cs_R_keeps f_R_endsThought f_R_goesBy f_R_isAlias f_R_isStruck f_R_thinks) [2] [21, 47] (fun pc ls st => mC (Nat.beq pc 21) (mN st <| gI ls 2 fun a2 => rt (.inl a2)) (mC (Nat.beq pc 47) (mN st <| gD ls 1 <| gI ls 2 fun a2 => rt (.inr a2)) (fl))) (fun _ => fl) 42 21 [(112, .ref 207), (0, .int x1), (0, .int y)] [] = ((if (100 : Int32) < y then
    rt (.inr y)
  else
    bn (f_R_isStruck x1) fun v1 =>
    (if v1 = 0 then
      bn (f_R_goesBy) fun v2 =>
      rt (.inl (y + (1 : Int32)))
    else
      rt (.inr y)))) := rfl
theorem b_R_keeps_21 {d : Nat} (hcs : AllS L X d (cs_R_keeps F_R_endsThought F_R_goesBy F_R_isAlias F_R_isStruck F_R_thinks)) (x1 : Int32) {o : Option Value × PH} {Q : ((Int32) ⊕ ((Int32))) → MI → Prop} (qb : ∀ y I, Q (.inl y) I → At L X (d + 1) 280 21 [(112, .ref 207), (0, .int x1), (0, .int y)] [] I o) (qe47 : ∀ y I, Q (.inr y) I → At L X (d + 1) 280 47 [(112, .ref 207), (0, dV), (0, .int y)] [] I o) (y : Int32) (I : MI) (r : (Int32) ⊕ ((Int32))) (I1 : MI) (h : B_R_keeps_21 x1 y I = some (r, I1)) (hq : Q r I1) : At L X (d + 1) 280 21 [(112, .ref 207), (0, .int x1), (0, .int y)] [] I o := by
  refine wf_ok z_R_keeps hcs ?_ ?_ _ _ _ _ _ ⟨rfl, trivial, trivial, trivial⟩ trivial (unm_refl _ _) ((congrFun (e_b_R_keeps_21 (L := L) (X := X) F_R_endsThought F_R_goesBy F_R_isAlias F_R_isStruck F_R_thinks x1 y) I).trans h)
  · intro pc ls st I2 h1 h2 h3 h
    rcases mC_ok h with ⟨hb, h⟩ | ⟨_, h⟩
    · have e := Nat.eq_of_beq_eq_true hb
      subst e
      obtain ⟨hst, h⟩ := mN_ok h
      subst hst
      obtain ⟨a2, n2, h⟩ := gI_ok h
      refine at_leaf (ls2 := [(112, .ref 207), (0, .int x1), (0, .int a2)]) h3.1 ⟨Or.inr ⟨_, (h3.2 0 rfl).trans rfl⟩, Or.inr ⟨_, (h3.2 1 rfl).trans rfl⟩, Or.inr n2, trivial⟩ ?_
      cases h; exact qb _ _ hq
    rcases mC_ok h with ⟨hb, h⟩ | ⟨_, h⟩
    · have e := Nat.eq_of_beq_eq_true hb
      subst e
      obtain ⟨hst, h⟩ := mN_ok h
      subst hst
      obtain ⟨n1, h⟩ := gD_ok h
      obtain ⟨a2, n2, h⟩ := gI_ok h
      refine at_leaf (ls2 := [(112, .ref 207), (0, dV), (0, .int a2)]) h3.1 ⟨Or.inr ⟨_, (h3.2 0 rfl).trans rfl⟩, Or.inl ⟨rfl, n1⟩, Or.inr n2, trivial⟩ ?_
      cases h; exact qe47 _ _ hq
    cases h
  · intro v I2 _ h
    cases h
def K_R_keeps_47 (x2 : Int32) : M (Int32) :=
  bn (F_R_endsThought) fun _ =>
  (if (100 : Int32) < x2 then
    rt (-1 : Int32)
  else
    rt x2)
set_option maxRecDepth 4000 in
theorem e_s_R_keeps_47 (f_R_endsThought : M Unit) (f_R_goesBy : M Int32) (f_R_isAlias : Int32 → M Int32) (f_R_isStruck : Int32 → M Int32) (f_R_thinks : M Unit) (x2 : Int32) : wf (β := Int32) L X q_R_keeps 1 (cs_R_keeps f_R_endsThought f_R_goesBy f_R_isAlias f_R_isStruck f_R_thinks) [] [21, 47] (fun _ _ _ => fl) (fun v => match v with | some (_, .int x) => rt x | _ => fl) 42 47 [(112, .ref 207), (0, dV), (0, .int x2)] [] = (bn (f_R_endsThought) fun _ =>
  (if (100 : Int32) < x2 then
    rt (-1 : Int32)
  else
    rt x2)) := rfl
theorem s_R_keeps_47 {d : Nat} (hcs : AllS L X d (cs_R_keeps F_R_endsThought F_R_goesBy F_R_isAlias F_R_isStruck F_R_thinks)) (x2 : Int32) {o : Option Value × PH} {Q : (Int32) → MI → Prop} (q0 : ∀ v I, Q v I → o = (some (.int v), HH I)) (I : MI) (r : Int32) (I1 : MI) (h : K_R_keeps_47 x2 I = some (r, I1)) (hq : Q r I1) : At L X (d + 1) 280 47 [(112, .ref 207), (0, dV), (0, .int x2)] [] I o := by
  refine wf_ok z_R_keeps hcs ?_ ?_ _ _ _ _ _ ⟨rfl, trivial, trivial, trivial⟩ trivial (unm_refl _ _) ((congrFun (e_s_R_keeps_47 (L := L) (X := X) F_R_endsThought F_R_goesBy F_R_isAlias F_R_isStruck F_R_thinks x2) I).trans h)
  · intro pc ls st I2 h1 h2 h3 h
    cases h
  · intro v I2 _ h
    split at h
    · cases h; exact q0 _ _ hq
    · cases h
def K_R_keeps_21 (x1 : Int32) (x2 : Int32) : M (Int32) :=
  bn (lp (B_R_keeps_21 x1) FU x2) fun e => K_R_keeps_47 e
theorem s_R_keeps_21 {d : Nat} (hcs : AllS L X d (cs_R_keeps F_R_endsThought F_R_goesBy F_R_isAlias F_R_isStruck F_R_thinks)) (x1 : Int32) (x2 : Int32) {o : Option Value × PH} {Q : (Int32) → MI → Prop} (q0 : ∀ v I, Q v I → o = (some (.int v), HH I)) (I : MI) (r : Int32) (I1 : MI) (h : K_R_keeps_21 x1 x2 I = some (r, I1)) (hq : Q r I1) : At L X (d + 1) 280 21 [(112, .ref 207), (0, .int x1), (0, .int x2)] [] I o := by
  unfold K_R_keeps_21 at h
  obtain ⟨e, I2, h1, h2⟩ := bn_some h
  have w0 := fun w => at_lp (body := B_R_keeps_21 x1) (P := (fun (y : Int32) I => At L X (d + 1) 280 21 [(112, .ref 207), (0, .int x1), (0, .int y)] [] I o)) (Q := (fun (e : (Int32)) I => (K_R_keeps_47 e) I = some (r, I1))) w FU x2 I e I2 h1 h2
  refine w0 ?_
  intro y I r2 I3 h hq2
  exact b_R_keeps_21 hcs x1 (Q := SQ (fun (y : Int32) I => At L X (d + 1) 280 21 [(112, .ref 207), (0, .int x1), (0, .int y)] [] I o) (fun (e : (Int32)) I => (K_R_keeps_47 e) I = some (r, I1))) (fun _ _ w => w) (fun y I w => s_R_keeps_47 hcs y q0 _ _ _ w hq) y I r2 I3 h hq2
def F_R_keeps (x1 : Int32) : M (Int32) :=
  bn (wr 207 0 (0 : Int32)) fun _ =>
  bn (F_R_isAlias x1) fun v1 =>
  (if v1 = 0 then
    rt (-1 : Int32)
  else
    bn (F_R_thinks) fun _ =>
    K_R_keeps_21 x1 (0 : Int32))
set_option maxRecDepth 4000 in
theorem e_s_R_keeps_0 (f_R_endsThought : M Unit) (f_R_goesBy : M Int32) (f_R_isAlias : Int32 → M Int32) (f_R_isStruck : Int32 → M Int32) (f_R_thinks : M Unit) (k_21 : Int32 → Int32 → M (Int32)) (x1 : Int32) : wf (β := Int32) L X q_R_keeps 1 (cs_R_keeps f_R_endsThought f_R_goesBy f_R_isAlias f_R_isStruck f_R_thinks) [2] [21, 47] (fun pc ls st => mC (Nat.beq pc 21) (mN st <| gI ls 2 fun a2 => k_21 x1 a2) (fl)) (fun v => match v with | some (_, .int x) => rt x | _ => fl) 42 0 [(112, .ref 207), (0, .int x1), (0, dV)] [] = (bn (wr 207 0 (0 : Int32)) fun _ =>
  bn (f_R_isAlias x1) fun v1 =>
  (if v1 = 0 then
    rt (-1 : Int32)
  else
    bn (f_R_thinks) fun _ =>
    k_21 x1 (0 : Int32))) := rfl
theorem s_R_keeps_0 {d : Nat} (hcs : AllS L X d (cs_R_keeps F_R_endsThought F_R_goesBy F_R_isAlias F_R_isStruck F_R_thinks)) (x1 : Int32) {o : Option Value × PH} {Q : (Int32) → MI → Prop} (q0 : ∀ v I, Q v I → o = (some (.int v), HH I)) (I : MI) (r : Int32) (I1 : MI) (h : F_R_keeps x1 I = some (r, I1)) (hq : Q r I1) : At L X (d + 1) 280 0 [(112, .ref 207), (0, .int x1), (0, dV)] [] I o := by
  refine wf_ok z_R_keeps hcs ?_ ?_ _ _ _ _ _ ⟨rfl, trivial, trivial, trivial⟩ trivial (unm_refl _ _) ((congrFun (e_s_R_keeps_0 (L := L) (X := X) F_R_endsThought F_R_goesBy F_R_isAlias F_R_isStruck F_R_thinks K_R_keeps_21 x1) I).trans h)
  · intro pc ls st I2 h1 h2 h3 h
    rcases mC_ok h with ⟨hb, h⟩ | ⟨_, h⟩
    · have e := Nat.eq_of_beq_eq_true hb
      subst e
      obtain ⟨hst, h⟩ := mN_ok h
      subst hst
      obtain ⟨a2, n2, h⟩ := gI_ok h
      refine at_leaf (ls2 := [(112, .ref 207), (0, .int x1), (0, .int a2)]) h3.1 ⟨Or.inr ⟨_, (h3.2 0 rfl).trans rfl⟩, Or.inr ⟨_, (h3.2 1 rfl).trans rfl⟩, Or.inr n2, trivial⟩ ?_
      exact s_R_keeps_21 hcs x1 a2 q0 _ _ _ h hq
    cases h
  · intro v I2 _ h
    split at h
    · cases h; exact q0 _ _ hq
    · cases h
theorem w_R_keeps {d : Nat} (hcs : AllS L X d (cs_R_keeps F_R_endsThought F_R_goesBy F_R_isAlias F_R_isStruck F_R_thinks)) : Snd L X (d + 1) 280 2 (W_R_keeps F_R_keeps) := by
  refine ⟨_, z_R_keeps, rfl, fun β args k I r hty hlen h => ?_⟩
  unfold W_R_keeps at h
  split at h
  · rename_i t0 a0 u1 a1
    obtain ⟨hb0, h⟩ := mB_ok h
    have e0 := Nat.eq_of_beq_eq_true hb0
    have g0 : okB 112 a0 = true := e0 ▸ hty.1
    have e20 := one_112 g0
    subst e20
    obtain ⟨v, I1, h1, h2⟩ := bn_some h
    refine ⟨gf_obj (c := 12) (by decide) g0, rfl, some (0, .int v), I1, trivial, ?_, h2⟩
    exact s_R_keeps_0 hcs a1  (Q := fun w I => w = v ∧ I = I1) (fun w I q => by obtain ⟨rfl, rfl⟩ := q; rfl) I v I1 h1 ⟨rfl, rfl⟩
  · cases h
theorem S_R_keeps {d : Nat} (hd : 8 ≤ d) : Snd L X d 280 2 (W_R_keeps F_R_keeps) := by
  obtain ⟨e, rfl⟩ : ∃ e, d = e + 1 := ⟨d - 1, by omega⟩
  exact w_R_keeps ⟨S_R_endsThought (by omega), S_R_goesBy (by omega), S_R_isAlias (by omega), S_R_isStruck (by omega), S_R_thinks (by omega), trivial⟩
set_option maxRecDepth 100000 in
theorem z_R_coatsAt : pT[302]? = some (q_R_coatsAt, 2, 4, 1, 12) := rfl
def W_R_coatsAt (F : Int32 → M Int32) : CSem := fun _ args k => match args with
  | [(t0, .ref a0), (_, .int a1)] => mB (Nat.beq t0 112) <| bn (F a1) fun v => k (some (0, .int v))
  | _ => fl
def cs_R_coatsAt (f_R_isIn : Int32 → Int32 → Int32 → M Int32) : List (Nat × Nat × CSem) := [(195, 4, W_R_isIn f_R_isIn)]
def B_R_coatsAt_4 (x1 : Int32) (y : Int32 × Int32) : M ((Int32 × Int32) ⊕ (Int32)) :=
  bn (rd 207 36) fun v1 =>
  (if y.2 < ((4 : Int32) * v1) then
    bn (ld 128 226 (y.2 + (1 : Int32))) fun v2 =>
    bn (ld 128 226 (y.2 + (2 : Int32))) fun v3 =>
    bn (F_R_isIn x1 v2 v3) fun v4 =>
    (if v4 = 0 then
      rt (.inl (y.1, (y.2 + (4 : Int32))))
    else
      rt (.inl ((y.1 + (1 : Int32)), (y.2 + (4 : Int32)))))
  else
    rt (.inr y.1))
set_option maxRecDepth 4000 in
theorem e_b_R_coatsAt_4 (f_R_isIn : Int32 → Int32 → Int32 → M Int32) (x1 : Int32) (y : Int32 × Int32) : wf (β := (Int32 × Int32) ⊕ (Int32)) L X q_R_coatsAt 1 (cs_R_coatsAt f_R_isIn) [2, 3] [4] (fun pc ls st => mC (Nat.beq pc 4) (mN st <| gI ls 2 fun a2 => gI ls 3 fun a3 => rt (.inl (a2, a3))) (fl)) (fun v => match v with | some (_, .int x) => rt (.inr x) | _ => fl) 42 4 [(112, .ref 207), (0, .int x1), (0, .int y.1), (0, .int y.2)] [] = (bn (rd 207 36) fun v1 =>
  (if y.2 < ((4 : Int32) * v1) then
    bn (ld 128 226 (y.2 + (1 : Int32))) fun v2 =>
    bn (ld 128 226 (y.2 + (2 : Int32))) fun v3 =>
    bn (f_R_isIn x1 v2 v3) fun v4 =>
    (if v4 = 0 then
      rt (.inl (y.1, (y.2 + (4 : Int32))))
    else
      rt (.inl ((y.1 + (1 : Int32)), (y.2 + (4 : Int32)))))
  else
    rt (.inr y.1))) := rfl
theorem b_R_coatsAt_4 {d : Nat} (hcs : AllS L X d (cs_R_coatsAt F_R_isIn)) (x1 : Int32) {o : Option Value × PH} {Q : ((Int32 × Int32) ⊕ (Int32)) → MI → Prop} (qb : ∀ y I, Q (.inl y) I → At L X (d + 1) 302 4 [(112, .ref 207), (0, .int x1), (0, .int y.1), (0, .int y.2)] [] I o) (qr : ∀ v I, Q (.inr v) I → o = (some (.int v), HH I)) (y : Int32 × Int32) (I : MI) (r : (Int32 × Int32) ⊕ (Int32)) (I1 : MI) (h : B_R_coatsAt_4 x1 y I = some (r, I1)) (hq : Q r I1) : At L X (d + 1) 302 4 [(112, .ref 207), (0, .int x1), (0, .int y.1), (0, .int y.2)] [] I o := by
  refine wf_ok z_R_coatsAt hcs ?_ ?_ _ _ _ _ _ ⟨rfl, trivial, trivial, trivial, trivial⟩ trivial (unm_refl _ _) ((congrFun (e_b_R_coatsAt_4 (L := L) (X := X) F_R_isIn x1 y) I).trans h)
  · intro pc ls st I2 h1 h2 h3 h
    rcases mC_ok h with ⟨hb, h⟩ | ⟨_, h⟩
    · have e := Nat.eq_of_beq_eq_true hb
      subst e
      obtain ⟨hst, h⟩ := mN_ok h
      subst hst
      obtain ⟨a2, n2, h⟩ := gI_ok h
      obtain ⟨a3, n3, h⟩ := gI_ok h
      refine at_leaf (ls2 := [(112, .ref 207), (0, .int x1), (0, .int a2), (0, .int a3)]) h3.1 ⟨Or.inr ⟨_, (h3.2 0 rfl).trans rfl⟩, Or.inr ⟨_, (h3.2 1 rfl).trans rfl⟩, Or.inr n2, Or.inr n3, trivial⟩ ?_
      cases h; exact qb _ _ hq
    cases h
  · intro v I2 _ h
    split at h
    · cases h; exact qr _ _ hq
    · cases h
def K_R_coatsAt_4 (x1 : Int32) (x2 : Int32) (x3 : Int32) : M (Int32) :=
  lp (B_R_coatsAt_4 x1) FU (x2, x3)
theorem s_R_coatsAt_4 {d : Nat} (hcs : AllS L X d (cs_R_coatsAt F_R_isIn)) (x1 : Int32) (x2 : Int32) (x3 : Int32) {o : Option Value × PH} {Q : (Int32) → MI → Prop} (q0 : ∀ v I, Q v I → o = (some (.int v), HH I)) (I : MI) (r : Int32) (I1 : MI) (h : K_R_coatsAt_4 x1 x2 x3 I = some (r, I1)) (hq : Q r I1) : At L X (d + 1) 302 4 [(112, .ref 207), (0, .int x1), (0, .int x2), (0, .int x3)] [] I o := by
  unfold K_R_coatsAt_4 at h
  have w0 := fun w => at_lp (body := B_R_coatsAt_4 x1) (P := (fun (y : Int32 × Int32) I => At L X (d + 1) 302 4 [(112, .ref 207), (0, .int x1), (0, .int y.1), (0, .int y.2)] [] I o)) (Q := (fun (e : Int32) I => Q e I)) w FU (x2, x3) I r I1 h hq
  refine w0 ?_
  intro y I r I1 h hq
  exact b_R_coatsAt_4 hcs x1 (Q := SQ (fun (y : Int32 × Int32) I => At L X (d + 1) 302 4 [(112, .ref 207), (0, .int x1), (0, .int y.1), (0, .int y.2)] [] I o) (fun (e : Int32) I => Q e I)) (fun _ _ w => w) q0 y I r I1 h hq
def F_R_coatsAt (x1 : Int32) : M (Int32) :=
  K_R_coatsAt_4 x1 (0 : Int32) (0 : Int32)
set_option maxRecDepth 4000 in
theorem e_s_R_coatsAt_0 (f_R_isIn : Int32 → Int32 → Int32 → M Int32) (k_4 : Int32 → Int32 → Int32 → M (Int32)) (x1 : Int32) : wf (β := Int32) L X q_R_coatsAt 1 (cs_R_coatsAt f_R_isIn) [2, 3] [4] (fun pc ls st => mC (Nat.beq pc 4) (mN st <| gI ls 2 fun a2 => gI ls 3 fun a3 => k_4 x1 a2 a3) (fl)) (fun v => match v with | some (_, .int x) => rt x | _ => fl) 42 0 [(112, .ref 207), (0, .int x1), (0, dV), (0, dV)] [] = (k_4 x1 (0 : Int32) (0 : Int32)) := rfl
theorem s_R_coatsAt_0 {d : Nat} (hcs : AllS L X d (cs_R_coatsAt F_R_isIn)) (x1 : Int32) {o : Option Value × PH} {Q : (Int32) → MI → Prop} (q0 : ∀ v I, Q v I → o = (some (.int v), HH I)) (I : MI) (r : Int32) (I1 : MI) (h : F_R_coatsAt x1 I = some (r, I1)) (hq : Q r I1) : At L X (d + 1) 302 0 [(112, .ref 207), (0, .int x1), (0, dV), (0, dV)] [] I o := by
  refine wf_ok z_R_coatsAt hcs ?_ ?_ _ _ _ _ _ ⟨rfl, trivial, trivial, trivial, trivial⟩ trivial (unm_refl _ _) ((congrFun (e_s_R_coatsAt_0 (L := L) (X := X) F_R_isIn K_R_coatsAt_4 x1) I).trans h)
  · intro pc ls st I2 h1 h2 h3 h
    rcases mC_ok h with ⟨hb, h⟩ | ⟨_, h⟩
    · have e := Nat.eq_of_beq_eq_true hb
      subst e
      obtain ⟨hst, h⟩ := mN_ok h
      subst hst
      obtain ⟨a2, n2, h⟩ := gI_ok h
      obtain ⟨a3, n3, h⟩ := gI_ok h
      refine at_leaf (ls2 := [(112, .ref 207), (0, .int x1), (0, .int a2), (0, .int a3)]) h3.1 ⟨Or.inr ⟨_, (h3.2 0 rfl).trans rfl⟩, Or.inr ⟨_, (h3.2 1 rfl).trans rfl⟩, Or.inr n2, Or.inr n3, trivial⟩ ?_
      exact s_R_coatsAt_4 hcs x1 a2 a3 q0 _ _ _ h hq
    cases h
  · intro v I2 _ h
    split at h
    · cases h; exact q0 _ _ hq
    · cases h
theorem w_R_coatsAt {d : Nat} (hcs : AllS L X d (cs_R_coatsAt F_R_isIn)) : Snd L X (d + 1) 302 2 (W_R_coatsAt F_R_coatsAt) := by
  refine ⟨_, z_R_coatsAt, rfl, fun β args k I r hty hlen h => ?_⟩
  unfold W_R_coatsAt at h
  split at h
  · rename_i t0 a0 u1 a1
    obtain ⟨hb0, h⟩ := mB_ok h
    have e0 := Nat.eq_of_beq_eq_true hb0
    have g0 : okB 112 a0 = true := e0 ▸ hty.1
    have e20 := one_112 g0
    subst e20
    obtain ⟨v, I1, h1, h2⟩ := bn_some h
    refine ⟨gf_obj (c := 12) (by decide) g0, rfl, some (0, .int v), I1, trivial, ?_, h2⟩
    exact s_R_coatsAt_0 hcs a1  (Q := fun w I => w = v ∧ I = I1) (fun w I q => by obtain ⟨rfl, rfl⟩ := q; rfl) I v I1 h1 ⟨rfl, rfl⟩
  · cases h
theorem S_R_coatsAt {d : Nat} (hd : 2 ≤ d) : Snd L X d 302 2 (W_R_coatsAt F_R_coatsAt) := by
  obtain ⟨e, rfl⟩ : ∃ e, d = e + 1 := ⟨d - 1, by omega⟩
  exact w_R_coatsAt ⟨S_R_isIn (by omega), trivial⟩
set_option maxRecDepth 100000 in
theorem z_R_onesOf : pT[296]? = some (q_R_onesOf, 2, 4, 1, 12) := rfl
def W_R_onesOf (F : Int32 → M Int32) : CSem := fun _ args k => match args with
  | [(t0, .ref a0), (_, .int a1)] => mB (Nat.beq t0 112) <| bn (F a1) fun v => k (some (0, .int v))
  | _ => fl
def cs_R_onesOf : List (Nat × Nat × CSem) := []
def B_R_onesOf_4 (y : Int32 × Int32) : M ((Int32 × Int32) ⊕ (Int32)) :=
  (if y.2 = 0 then
    rt (.inr y.1)
  else
    rt (.inl ((y.1 + (1 : Int32)), (y.2 &&& (y.2 - (1 : Int32))))))
set_option maxRecDepth 4000 in
theorem e_b_R_onesOf_4 (y : Int32 × Int32) : wf (β := (Int32 × Int32) ⊕ (Int32)) L X q_R_onesOf 1 cs_R_onesOf [2, 3] [4] (fun pc ls st => mC (Nat.beq pc 4) (mN st <| gD ls 0 <| gD ls 1 <| gI ls 2 fun a2 => gI ls 3 fun a3 => rt (.inl (a2, a3))) (fl)) (fun v => match v with | some (_, .int x) => rt (.inr x) | _ => fl) 24 4 [(0, dV), (0, dV), (0, .int y.1), (0, .int y.2)] [] = ((if y.2 = 0 then
    rt (.inr y.1)
  else
    rt (.inl ((y.1 + (1 : Int32)), (y.2 &&& (y.2 - (1 : Int32))))))) := rfl
theorem b_R_onesOf_4 {d : Nat} (hcs : AllS L X d cs_R_onesOf) {o : Option Value × PH} {Q : ((Int32 × Int32) ⊕ (Int32)) → MI → Prop} (qb : ∀ y I, Q (.inl y) I → At L X (d + 1) 296 4 [(0, dV), (0, dV), (0, .int y.1), (0, .int y.2)] [] I o) (qr : ∀ v I, Q (.inr v) I → o = (some (.int v), HH I)) (y : Int32 × Int32) (I : MI) (r : (Int32 × Int32) ⊕ (Int32)) (I1 : MI) (h : B_R_onesOf_4 y I = some (r, I1)) (hq : Q r I1) : At L X (d + 1) 296 4 [(0, dV), (0, dV), (0, .int y.1), (0, .int y.2)] [] I o := by
  refine wf_ok z_R_onesOf hcs ?_ ?_ _ _ _ _ _ ⟨trivial, trivial, trivial, trivial, trivial⟩ trivial (unm_refl _ _) ((congrFun (e_b_R_onesOf_4 (L := L) (X := X) y) I).trans h)
  · intro pc ls st I2 h1 h2 h3 h
    rcases mC_ok h with ⟨hb, h⟩ | ⟨_, h⟩
    · have e := Nat.eq_of_beq_eq_true hb
      subst e
      obtain ⟨hst, h⟩ := mN_ok h
      subst hst
      obtain ⟨n0, h⟩ := gD_ok h
      obtain ⟨n1, h⟩ := gD_ok h
      obtain ⟨a2, n2, h⟩ := gI_ok h
      obtain ⟨a3, n3, h⟩ := gI_ok h
      refine at_leaf (ls2 := [(0, dV), (0, dV), (0, .int a2), (0, .int a3)]) h3.1 ⟨Or.inl ⟨rfl, n0⟩, Or.inl ⟨rfl, n1⟩, Or.inr n2, Or.inr n3, trivial⟩ ?_
      cases h; exact qb _ _ hq
    cases h
  · intro v I2 _ h
    split at h
    · cases h; exact qr _ _ hq
    · cases h
def K_R_onesOf_4 (x2 : Int32) (x3 : Int32) : M (Int32) :=
  lp (B_R_onesOf_4) FU (x2, x3)
theorem s_R_onesOf_4 {d : Nat} (hcs : AllS L X d cs_R_onesOf) (x2 : Int32) (x3 : Int32) {o : Option Value × PH} {Q : (Int32) → MI → Prop} (q0 : ∀ v I, Q v I → o = (some (.int v), HH I)) (I : MI) (r : Int32) (I1 : MI) (h : K_R_onesOf_4 x2 x3 I = some (r, I1)) (hq : Q r I1) : At L X (d + 1) 296 4 [(0, dV), (0, dV), (0, .int x2), (0, .int x3)] [] I o := by
  unfold K_R_onesOf_4 at h
  have w0 := fun w => at_lp (body := B_R_onesOf_4) (P := (fun (y : Int32 × Int32) I => At L X (d + 1) 296 4 [(0, dV), (0, dV), (0, .int y.1), (0, .int y.2)] [] I o)) (Q := (fun (e : Int32) I => Q e I)) w FU (x2, x3) I r I1 h hq
  refine w0 ?_
  intro y I r I1 h hq
  exact b_R_onesOf_4 hcs (Q := SQ (fun (y : Int32 × Int32) I => At L X (d + 1) 296 4 [(0, dV), (0, dV), (0, .int y.1), (0, .int y.2)] [] I o) (fun (e : Int32) I => Q e I)) (fun _ _ w => w) q0 y I r I1 h hq
def F_R_onesOf (x1 : Int32) : M (Int32) :=
  K_R_onesOf_4 (0 : Int32) x1
set_option maxRecDepth 4000 in
theorem e_s_R_onesOf_0 (k_4 : Int32 → Int32 → M (Int32)) (x1 : Int32) : wf (β := Int32) L X q_R_onesOf 1 cs_R_onesOf [2, 3] [4] (fun pc ls st => mC (Nat.beq pc 4) (mN st <| gD ls 0 <| gD ls 1 <| gI ls 2 fun a2 => gI ls 3 fun a3 => k_4 a2 a3) (fl)) (fun v => match v with | some (_, .int x) => rt x | _ => fl) 24 0 [(112, .ref 207), (0, .int x1), (0, dV), (0, dV)] [] = (k_4 (0 : Int32) x1) := rfl
theorem s_R_onesOf_0 {d : Nat} (hcs : AllS L X d cs_R_onesOf) (x1 : Int32) {o : Option Value × PH} {Q : (Int32) → MI → Prop} (q0 : ∀ v I, Q v I → o = (some (.int v), HH I)) (I : MI) (r : Int32) (I1 : MI) (h : F_R_onesOf x1 I = some (r, I1)) (hq : Q r I1) : At L X (d + 1) 296 0 [(112, .ref 207), (0, .int x1), (0, dV), (0, dV)] [] I o := by
  refine wf_ok z_R_onesOf hcs ?_ ?_ _ _ _ _ _ ⟨rfl, trivial, trivial, trivial, trivial⟩ trivial (unm_refl _ _) ((congrFun (e_s_R_onesOf_0 (L := L) (X := X) K_R_onesOf_4 x1) I).trans h)
  · intro pc ls st I2 h1 h2 h3 h
    rcases mC_ok h with ⟨hb, h⟩ | ⟨_, h⟩
    · have e := Nat.eq_of_beq_eq_true hb
      subst e
      obtain ⟨hst, h⟩ := mN_ok h
      subst hst
      obtain ⟨n0, h⟩ := gD_ok h
      obtain ⟨n1, h⟩ := gD_ok h
      obtain ⟨a2, n2, h⟩ := gI_ok h
      obtain ⟨a3, n3, h⟩ := gI_ok h
      refine at_leaf (ls2 := [(0, dV), (0, dV), (0, .int a2), (0, .int a3)]) h3.1 ⟨Or.inl ⟨rfl, n0⟩, Or.inl ⟨rfl, n1⟩, Or.inr n2, Or.inr n3, trivial⟩ ?_
      exact s_R_onesOf_4 hcs a2 a3 q0 _ _ _ h hq
    cases h
  · intro v I2 _ h
    split at h
    · cases h; exact q0 _ _ hq
    · cases h
theorem w_R_onesOf {d : Nat} (hcs : AllS L X d cs_R_onesOf) : Snd L X (d + 1) 296 2 (W_R_onesOf F_R_onesOf) := by
  refine ⟨_, z_R_onesOf, rfl, fun β args k I r hty hlen h => ?_⟩
  unfold W_R_onesOf at h
  split at h
  · rename_i t0 a0 u1 a1
    obtain ⟨hb0, h⟩ := mB_ok h
    have e0 := Nat.eq_of_beq_eq_true hb0
    have g0 : okB 112 a0 = true := e0 ▸ hty.1
    have e20 := one_112 g0
    subst e20
    obtain ⟨v, I1, h1, h2⟩ := bn_some h
    refine ⟨gf_obj (c := 12) (by decide) g0, rfl, some (0, .int v), I1, trivial, ?_, h2⟩
    exact s_R_onesOf_0 hcs a1  (Q := fun w I => w = v ∧ I = I1) (fun w I q => by obtain ⟨rfl, rfl⟩ := q; rfl) I v I1 h1 ⟨rfl, rfl⟩
  · cases h
theorem S_R_onesOf {d : Nat} (hd : 1 ≤ d) : Snd L X d 296 2 (W_R_onesOf F_R_onesOf) := by
  obtain ⟨e, rfl⟩ : ∃ e, d = e + 1 := ⟨d - 1, by omega⟩
  exact w_R_onesOf trivial
set_option maxRecDepth 100000 in
theorem z_R_watchSet : pT[301]? = some (q_R_watchSet, 1, 5, 1, 12) := rfl
def W_R_watchSet (F : M Int32) : CSem := fun _ args k => match args with
  | [(t0, .ref a0)] => mB (Nat.beq t0 112) <| bn (F) fun v => k (some (0, .int v))
  | _ => fl
def cs_R_watchSet (f_R_has : Int32 → Int32 → M Int32) (f_R_onesOf : Int32 → M Int32) : List (Nat × Nat × CSem) := [(286, 3, W_R_has f_R_has), (296, 2, W_R_onesOf f_R_onesOf)]
def B_R_watchSet_17 (x1 : Int32) (x2 : Int32) (y : Int32 × Int32) : M ((Int32 × Int32) ⊕ ((Int32))) :=
  (if y.2 < (10 : Int32) then
    bn (F_R_has x2 y.2) fun v1 =>
    (if v1 = 0 then
      rt (.inl (y.1, (y.2 + (1 : Int32))))
    else
      bn (ld 20 228 y.2) fun v2 =>
      rt (.inl ((y.1 ||| v2), (y.2 + (1 : Int32)))))
  else
    rt (.inr y.1))
set_option maxRecDepth 4000 in
theorem e_b_R_watchSet_17 (f_R_has : Int32 → Int32 → M Int32) (f_R_onesOf : Int32 → M Int32) (x1 : Int32) (x2 : Int32) (y : Int32 × Int32) : wf (β := (Int32 × Int32) ⊕ ((Int32))) L X q_R_watchSet 1 (cs_R_watchSet f_R_has f_R_onesOf) [3, 4] [8, 17, 50] (fun pc ls st => mC (Nat.beq pc 17) (mN st <| gI ls 3 fun a3 => gI ls 4 fun a4 => rt (.inl (a3, a4))) (mC (Nat.beq pc 50) (mN st <| gI ls 3 fun a3 => gD ls 4 <| rt (.inr a3)) (fl))) (fun _ => fl) 48 17 [(112, .ref 207), (0, .int x1), (0, .int x2), (0, .int y.1), (0, .int y.2)] [] = ((if y.2 < (10 : Int32) then
    bn (f_R_has x2 y.2) fun v1 =>
    (if v1 = 0 then
      rt (.inl (y.1, (y.2 + (1 : Int32))))
    else
      bn (ld 20 228 y.2) fun v2 =>
      rt (.inl ((y.1 ||| v2), (y.2 + (1 : Int32)))))
  else
    rt (.inr y.1))) := rfl
theorem b_R_watchSet_17 {d : Nat} (hcs : AllS L X d (cs_R_watchSet F_R_has F_R_onesOf)) (x1 : Int32) (x2 : Int32) {o : Option Value × PH} {Q : ((Int32 × Int32) ⊕ ((Int32))) → MI → Prop} (qb : ∀ y I, Q (.inl y) I → At L X (d + 1) 301 17 [(112, .ref 207), (0, .int x1), (0, .int x2), (0, .int y.1), (0, .int y.2)] [] I o) (qe50 : ∀ y I, Q (.inr y) I → At L X (d + 1) 301 50 [(112, .ref 207), (0, .int x1), (0, .int x2), (0, .int y), (0, dV)] [] I o) (y : Int32 × Int32) (I : MI) (r : (Int32 × Int32) ⊕ ((Int32))) (I1 : MI) (h : B_R_watchSet_17 x1 x2 y I = some (r, I1)) (hq : Q r I1) : At L X (d + 1) 301 17 [(112, .ref 207), (0, .int x1), (0, .int x2), (0, .int y.1), (0, .int y.2)] [] I o := by
  refine wf_ok z_R_watchSet hcs ?_ ?_ _ _ _ _ _ ⟨rfl, trivial, trivial, trivial, trivial, trivial⟩ trivial (unm_refl _ _) ((congrFun (e_b_R_watchSet_17 (L := L) (X := X) F_R_has F_R_onesOf x1 x2 y) I).trans h)
  · intro pc ls st I2 h1 h2 h3 h
    rcases mC_ok h with ⟨hb, h⟩ | ⟨_, h⟩
    · have e := Nat.eq_of_beq_eq_true hb
      subst e
      obtain ⟨hst, h⟩ := mN_ok h
      subst hst
      obtain ⟨a3, n3, h⟩ := gI_ok h
      obtain ⟨a4, n4, h⟩ := gI_ok h
      refine at_leaf (ls2 := [(112, .ref 207), (0, .int x1), (0, .int x2), (0, .int a3), (0, .int a4)]) h3.1 ⟨Or.inr ⟨_, (h3.2 0 rfl).trans rfl⟩, Or.inr ⟨_, (h3.2 1 rfl).trans rfl⟩, Or.inr ⟨_, (h3.2 2 rfl).trans rfl⟩, Or.inr n3, Or.inr n4, trivial⟩ ?_
      cases h; exact qb _ _ hq
    rcases mC_ok h with ⟨hb, h⟩ | ⟨_, h⟩
    · have e := Nat.eq_of_beq_eq_true hb
      subst e
      obtain ⟨hst, h⟩ := mN_ok h
      subst hst
      obtain ⟨a3, n3, h⟩ := gI_ok h
      obtain ⟨n4, h⟩ := gD_ok h
      refine at_leaf (ls2 := [(112, .ref 207), (0, .int x1), (0, .int x2), (0, .int a3), (0, dV)]) h3.1 ⟨Or.inr ⟨_, (h3.2 0 rfl).trans rfl⟩, Or.inr ⟨_, (h3.2 1 rfl).trans rfl⟩, Or.inr ⟨_, (h3.2 2 rfl).trans rfl⟩, Or.inr n3, Or.inl ⟨rfl, n4⟩, trivial⟩ ?_
      cases h; exact qe50 _ _ hq
    cases h
  · intro v I2 _ h
    cases h
def K_R_watchSet_50 (x1 : Int32) (x2 : Int32) (x3 : Int32) : M ((Int32 × Int32) ⊕ (Int32)) :=
  (if x3 = (1023 : Int32) then
    bn (F_R_onesOf x2) fun v1 =>
    bn (F_R_onesOf x1) fun v2 =>
    (if v2 < v1 then
      rt (.inl (x1, (x2 + (-1 : Int32))))
    else
      rt (.inl (x2, (x2 + (-1 : Int32)))))
  else
    rt (.inl (x1, (x2 + (-1 : Int32)))))
set_option maxRecDepth 4000 in
theorem e_s_R_watchSet_50 (f_R_has : Int32 → Int32 → M Int32) (f_R_onesOf : Int32 → M Int32) (x1 : Int32) (x2 : Int32) (x3 : Int32) : wf (β := (Int32 × Int32) ⊕ (Int32)) L X q_R_watchSet 1 (cs_R_watchSet f_R_has f_R_onesOf) [1, 2] [8, 17, 50] (fun pc ls st => mC (Nat.beq pc 8) (mN st <| gI ls 1 fun a1 => gI ls 2 fun a2 => gD ls 3 <| gD ls 4 <| rt (.inl (a1, a2))) (fl)) (fun v => match v with | some (_, .int x) => rt (.inr x) | _ => fl) 48 50 [(112, .ref 207), (0, .int x1), (0, .int x2), (0, .int x3), (0, dV)] [] = ((if x3 = (1023 : Int32) then
    bn (f_R_onesOf x2) fun v1 =>
    bn (f_R_onesOf x1) fun v2 =>
    (if v2 < v1 then
      rt (.inl (x1, (x2 + (-1 : Int32))))
    else
      rt (.inl (x2, (x2 + (-1 : Int32)))))
  else
    rt (.inl (x1, (x2 + (-1 : Int32)))))) := rfl
theorem s_R_watchSet_50 {d : Nat} (hcs : AllS L X d (cs_R_watchSet F_R_has F_R_onesOf)) (x1 : Int32) (x2 : Int32) (x3 : Int32) {o : Option Value × PH} {Q : ((Int32 × Int32) ⊕ (Int32)) → MI → Prop} (qb : ∀ y I, Q (.inl y) I → At L X (d + 1) 301 8 [(112, .ref 207), (0, .int y.1), (0, .int y.2), (0, dV), (0, dV)] [] I o) (qr : ∀ v I, Q (.inr v) I → o = (some (.int v), HH I)) (I : MI) (r : (Int32 × Int32) ⊕ (Int32)) (I1 : MI) (h : K_R_watchSet_50 x1 x2 x3 I = some (r, I1)) (hq : Q r I1) : At L X (d + 1) 301 50 [(112, .ref 207), (0, .int x1), (0, .int x2), (0, .int x3), (0, dV)] [] I o := by
  refine wf_ok z_R_watchSet hcs ?_ ?_ _ _ _ _ _ ⟨rfl, trivial, trivial, trivial, trivial, trivial⟩ trivial (unm_refl _ _) ((congrFun (e_s_R_watchSet_50 (L := L) (X := X) F_R_has F_R_onesOf x1 x2 x3) I).trans h)
  · intro pc ls st I2 h1 h2 h3 h
    rcases mC_ok h with ⟨hb, h⟩ | ⟨_, h⟩
    · have e := Nat.eq_of_beq_eq_true hb
      subst e
      obtain ⟨hst, h⟩ := mN_ok h
      subst hst
      obtain ⟨a1, n1, h⟩ := gI_ok h
      obtain ⟨a2, n2, h⟩ := gI_ok h
      obtain ⟨n3, h⟩ := gD_ok h
      obtain ⟨n4, h⟩ := gD_ok h
      refine at_leaf (ls2 := [(112, .ref 207), (0, .int a1), (0, .int a2), (0, dV), (0, dV)]) h3.1 ⟨Or.inr ⟨_, (h3.2 0 rfl).trans rfl⟩, Or.inr n1, Or.inr n2, Or.inl ⟨rfl, n3⟩, Or.inl ⟨rfl, n4⟩, trivial⟩ ?_
      cases h; exact qb _ _ hq
    cases h
  · intro v I2 _ h
    split at h
    · cases h; exact qr _ _ hq
    · cases h
def K_R_watchSet_17 (x1 : Int32) (x2 : Int32) (x3 : Int32) (x4 : Int32) : M ((Int32 × Int32) ⊕ (Int32)) :=
  bn (lp (B_R_watchSet_17 x1 x2) FU (x3, x4)) fun e => K_R_watchSet_50 x1 x2 e
theorem s_R_watchSet_17 {d : Nat} (hcs : AllS L X d (cs_R_watchSet F_R_has F_R_onesOf)) (x1 : Int32) (x2 : Int32) (x3 : Int32) (x4 : Int32) {o : Option Value × PH} {Q : ((Int32 × Int32) ⊕ (Int32)) → MI → Prop} (qb : ∀ y I, Q (.inl y) I → At L X (d + 1) 301 8 [(112, .ref 207), (0, .int y.1), (0, .int y.2), (0, dV), (0, dV)] [] I o) (qr : ∀ v I, Q (.inr v) I → o = (some (.int v), HH I)) (I : MI) (r : (Int32 × Int32) ⊕ (Int32)) (I1 : MI) (h : K_R_watchSet_17 x1 x2 x3 x4 I = some (r, I1)) (hq : Q r I1) : At L X (d + 1) 301 17 [(112, .ref 207), (0, .int x1), (0, .int x2), (0, .int x3), (0, .int x4)] [] I o := by
  unfold K_R_watchSet_17 at h
  obtain ⟨e, I2, h1, h2⟩ := bn_some h
  have w0 := fun w => at_lp (body := B_R_watchSet_17 x1 x2) (P := (fun (y : Int32 × Int32) I => At L X (d + 1) 301 17 [(112, .ref 207), (0, .int x1), (0, .int x2), (0, .int y.1), (0, .int y.2)] [] I o)) (Q := (fun (e : (Int32)) I => (K_R_watchSet_50 x1 x2 e) I = some (r, I1))) w FU (x3, x4) I e I2 h1 h2
  refine w0 ?_
  intro y I r2 I3 h hq2
  exact b_R_watchSet_17 hcs x1 x2 (Q := SQ (fun (y : Int32 × Int32) I => At L X (d + 1) 301 17 [(112, .ref 207), (0, .int x1), (0, .int x2), (0, .int y.1), (0, .int y.2)] [] I o) (fun (e : (Int32)) I => (K_R_watchSet_50 x1 x2 e) I = some (r, I1))) (fun _ _ w => w) (fun y I w => s_R_watchSet_50 hcs x1 x2 y qb qr _ _ _ w hq) y I r2 I3 h hq2
def B_R_watchSet_8 (y : Int32 × Int32) : M ((Int32 × Int32) ⊕ (Int32)) :=
  (if y.2 < 0 then
    rt (.inr y.1)
  else
    K_R_watchSet_17 y.1 y.2 y.2 (0 : Int32))
set_option maxRecDepth 4000 in
theorem e_b_R_watchSet_8 (f_R_has : Int32 → Int32 → M Int32) (f_R_onesOf : Int32 → M Int32) (k_17 : Int32 → Int32 → Int32 → Int32 → M ((Int32 × Int32) ⊕ (Int32))) (y : Int32 × Int32) : wf (β := (Int32 × Int32) ⊕ (Int32)) L X q_R_watchSet 1 (cs_R_watchSet f_R_has f_R_onesOf) [3, 4] [8, 17, 50] (fun pc ls st => mC (Nat.beq pc 17) (mN st <| gI ls 3 fun a3 => gI ls 4 fun a4 => k_17 y.1 y.2 a3 a4) (fl)) (fun v => match v with | some (_, .int x) => rt (.inr x) | _ => fl) 48 8 [(112, .ref 207), (0, .int y.1), (0, .int y.2), (0, dV), (0, dV)] [] = ((if y.2 < 0 then
    rt (.inr y.1)
  else
    k_17 y.1 y.2 y.2 (0 : Int32))) := rfl
theorem b_R_watchSet_8 {d : Nat} (hcs : AllS L X d (cs_R_watchSet F_R_has F_R_onesOf)) {o : Option Value × PH} {Q : ((Int32 × Int32) ⊕ (Int32)) → MI → Prop} (qb : ∀ y I, Q (.inl y) I → At L X (d + 1) 301 8 [(112, .ref 207), (0, .int y.1), (0, .int y.2), (0, dV), (0, dV)] [] I o) (qr : ∀ v I, Q (.inr v) I → o = (some (.int v), HH I)) (y : Int32 × Int32) (I : MI) (r : (Int32 × Int32) ⊕ (Int32)) (I1 : MI) (h : B_R_watchSet_8 y I = some (r, I1)) (hq : Q r I1) : At L X (d + 1) 301 8 [(112, .ref 207), (0, .int y.1), (0, .int y.2), (0, dV), (0, dV)] [] I o := by
  refine wf_ok z_R_watchSet hcs ?_ ?_ _ _ _ _ _ ⟨rfl, trivial, trivial, trivial, trivial, trivial⟩ trivial (unm_refl _ _) ((congrFun (e_b_R_watchSet_8 (L := L) (X := X) F_R_has F_R_onesOf K_R_watchSet_17 y) I).trans h)
  · intro pc ls st I2 h1 h2 h3 h
    rcases mC_ok h with ⟨hb, h⟩ | ⟨_, h⟩
    · have e := Nat.eq_of_beq_eq_true hb
      subst e
      obtain ⟨hst, h⟩ := mN_ok h
      subst hst
      obtain ⟨a3, n3, h⟩ := gI_ok h
      obtain ⟨a4, n4, h⟩ := gI_ok h
      refine at_leaf (ls2 := [(112, .ref 207), (0, .int y.1), (0, .int y.2), (0, .int a3), (0, .int a4)]) h3.1 ⟨Or.inr ⟨_, (h3.2 0 rfl).trans rfl⟩, Or.inr ⟨_, (h3.2 1 rfl).trans rfl⟩, Or.inr ⟨_, (h3.2 2 rfl).trans rfl⟩, Or.inr n3, Or.inr n4, trivial⟩ ?_
      exact s_R_watchSet_17 hcs y.1 y.2 a3 a4 qb qr _ _ _ h hq
    cases h
  · intro v I2 _ h
    split at h
    · cases h; exact qr _ _ hq
    · cases h
def K_R_watchSet_8 (x1 : Int32) (x2 : Int32) : M (Int32) :=
  lp (B_R_watchSet_8) FU (x1, x2)
theorem s_R_watchSet_8 {d : Nat} (hcs : AllS L X d (cs_R_watchSet F_R_has F_R_onesOf)) (x1 : Int32) (x2 : Int32) {o : Option Value × PH} {Q : (Int32) → MI → Prop} (q0 : ∀ v I, Q v I → o = (some (.int v), HH I)) (I : MI) (r : Int32) (I1 : MI) (h : K_R_watchSet_8 x1 x2 I = some (r, I1)) (hq : Q r I1) : At L X (d + 1) 301 8 [(112, .ref 207), (0, .int x1), (0, .int x2), (0, dV), (0, dV)] [] I o := by
  unfold K_R_watchSet_8 at h
  have w0 := fun w => at_lp (body := B_R_watchSet_8) (P := (fun (y : Int32 × Int32) I => At L X (d + 1) 301 8 [(112, .ref 207), (0, .int y.1), (0, .int y.2), (0, dV), (0, dV)] [] I o)) (Q := (fun (e : Int32) I => Q e I)) w FU (x1, x2) I r I1 h hq
  refine w0 ?_
  intro y I r I1 h hq
  exact b_R_watchSet_8 hcs (Q := SQ (fun (y : Int32 × Int32) I => At L X (d + 1) 301 8 [(112, .ref 207), (0, .int y.1), (0, .int y.2), (0, dV), (0, dV)] [] I o) (fun (e : Int32) I => Q e I)) (fun _ _ w => w) q0 y I r I1 h hq
def F_R_watchSet : M (Int32) :=
  K_R_watchSet_8 (1023 : Int32) (1022 : Int32)
set_option maxRecDepth 4000 in
theorem e_s_R_watchSet_0 (f_R_has : Int32 → Int32 → M Int32) (f_R_onesOf : Int32 → M Int32) (k_8 : Int32 → Int32 → M (Int32)) : wf (β := Int32) L X q_R_watchSet 1 (cs_R_watchSet f_R_has f_R_onesOf) [1, 2] [8, 17, 50] (fun pc ls st => mC (Nat.beq pc 8) (mN st <| gI ls 1 fun a1 => gI ls 2 fun a2 => gD ls 3 <| gD ls 4 <| k_8 a1 a2) (fl)) (fun v => match v with | some (_, .int x) => rt x | _ => fl) 48 0 [(112, .ref 207), (0, dV), (0, dV), (0, dV), (0, dV)] [] = (k_8 (1023 : Int32) (1022 : Int32)) := rfl
theorem s_R_watchSet_0 {d : Nat} (hcs : AllS L X d (cs_R_watchSet F_R_has F_R_onesOf)) {o : Option Value × PH} {Q : (Int32) → MI → Prop} (q0 : ∀ v I, Q v I → o = (some (.int v), HH I)) (I : MI) (r : Int32) (I1 : MI) (h : F_R_watchSet I = some (r, I1)) (hq : Q r I1) : At L X (d + 1) 301 0 [(112, .ref 207), (0, dV), (0, dV), (0, dV), (0, dV)] [] I o := by
  refine wf_ok z_R_watchSet hcs ?_ ?_ _ _ _ _ _ ⟨rfl, trivial, trivial, trivial, trivial, trivial⟩ trivial (unm_refl _ _) ((congrFun (e_s_R_watchSet_0 (L := L) (X := X) F_R_has F_R_onesOf K_R_watchSet_8) I).trans h)
  · intro pc ls st I2 h1 h2 h3 h
    rcases mC_ok h with ⟨hb, h⟩ | ⟨_, h⟩
    · have e := Nat.eq_of_beq_eq_true hb
      subst e
      obtain ⟨hst, h⟩ := mN_ok h
      subst hst
      obtain ⟨a1, n1, h⟩ := gI_ok h
      obtain ⟨a2, n2, h⟩ := gI_ok h
      obtain ⟨n3, h⟩ := gD_ok h
      obtain ⟨n4, h⟩ := gD_ok h
      refine at_leaf (ls2 := [(112, .ref 207), (0, .int a1), (0, .int a2), (0, dV), (0, dV)]) h3.1 ⟨Or.inr ⟨_, (h3.2 0 rfl).trans rfl⟩, Or.inr n1, Or.inr n2, Or.inl ⟨rfl, n3⟩, Or.inl ⟨rfl, n4⟩, trivial⟩ ?_
      exact s_R_watchSet_8 hcs a1 a2 q0 _ _ _ h hq
    cases h
  · intro v I2 _ h
    split at h
    · cases h; exact q0 _ _ hq
    · cases h
theorem w_R_watchSet {d : Nat} (hcs : AllS L X d (cs_R_watchSet F_R_has F_R_onesOf)) : Snd L X (d + 1) 301 1 (W_R_watchSet F_R_watchSet) := by
  refine ⟨_, z_R_watchSet, rfl, fun β args k I r hty hlen h => ?_⟩
  unfold W_R_watchSet at h
  split at h
  · rename_i t0 a0
    obtain ⟨hb0, h⟩ := mB_ok h
    have e0 := Nat.eq_of_beq_eq_true hb0
    have g0 : okB 112 a0 = true := e0 ▸ hty.1
    have e20 := one_112 g0
    subst e20
    obtain ⟨v, I1, h1, h2⟩ := bn_some h
    refine ⟨gf_obj (c := 12) (by decide) g0, rfl, some (0, .int v), I1, trivial, ?_, h2⟩
    exact s_R_watchSet_0 hcs   (Q := fun w I => w = v ∧ I = I1) (fun w I q => by obtain ⟨rfl, rfl⟩ := q; rfl) I v I1 h1 ⟨rfl, rfl⟩
  · cases h
theorem S_R_watchSet {d : Nat} (hd : 2 ≤ d) : Snd L X d 301 1 (W_R_watchSet F_R_watchSet) := by
  obtain ⟨e, rfl⟩ : ∃ e, d = e + 1 := ⟨d - 1, by omega⟩
  exact w_R_watchSet ⟨S_R_has (by omega), S_R_onesOf (by omega), trivial⟩
set_option maxRecDepth 100000 in
theorem z_R_least : pT[300]? = some (q_R_least, 2, 4, 1, 12) := rfl
def W_R_least (F : Int32 → M Int32) : CSem := fun _ args k => match args with
  | [(t0, .ref a0), (_, .int a1)] => mB (Nat.beq t0 112) <| bn (F a1) fun v => k (some (0, .int v))
  | _ => fl
def cs_R_least (f_R_coatsAt : Int32 → M Int32) (f_R_isIn : Int32 → Int32 → Int32 → M Int32) (f_R_onesOf : Int32 → M Int32) (f_R_watchSet : M Int32) : List (Nat × Nat × CSem) := [(302, 2, W_R_coatsAt f_R_coatsAt), (195, 4, W_R_isIn f_R_isIn), (296, 2, W_R_onesOf f_R_onesOf), (301, 1, W_R_watchSet f_R_watchSet)]
def B_R_least_45 (x1 : Int32) (y : Int32 × Int32) : M ((Int32 × Int32) ⊕ ((Int32))) :=
  (if y.2 < (24 : Int32) then
    bn (F_R_coatsAt y.2) fun v1 =>
    bn (F_R_coatsAt y.1) fun v2 =>
    (if v2 < v1 then
      rt (.inl (y.2, (y.2 + (1 : Int32))))
    else
      rt (.inl (y.1, (y.2 + (1 : Int32)))))
  else
    rt (.inr y.1))
set_option maxRecDepth 4000 in
theorem e_b_R_least_45 (f_R_coatsAt : Int32 → M Int32) (f_R_isIn : Int32 → Int32 → Int32 → M Int32) (f_R_onesOf : Int32 → M Int32) (f_R_watchSet : M Int32) (x1 : Int32) (y : Int32 × Int32) : wf (β := (Int32 × Int32) ⊕ ((Int32))) L X q_R_least 1 (cs_R_least f_R_coatsAt f_R_isIn f_R_onesOf f_R_watchSet) [2, 3] [45, 72] (fun pc ls st => mC (Nat.beq pc 45) (mN st <| gI ls 2 fun a2 => gI ls 3 fun a3 => rt (.inl (a2, a3))) (mC (Nat.beq pc 72) (mN st <| gI ls 2 fun a2 => gD ls 3 <| rt (.inr a2)) (fl))) (fun _ => fl) 56 45 [(112, .ref 207), (0, .int x1), (0, .int y.1), (0, .int y.2)] [] = ((if y.2 < (24 : Int32) then
    bn (f_R_coatsAt y.2) fun v1 =>
    bn (f_R_coatsAt y.1) fun v2 =>
    (if v2 < v1 then
      rt (.inl (y.2, (y.2 + (1 : Int32))))
    else
      rt (.inl (y.1, (y.2 + (1 : Int32)))))
  else
    rt (.inr y.1))) := rfl
theorem b_R_least_45 {d : Nat} (hcs : AllS L X d (cs_R_least F_R_coatsAt F_R_isIn F_R_onesOf F_R_watchSet)) (x1 : Int32) {o : Option Value × PH} {Q : ((Int32 × Int32) ⊕ ((Int32))) → MI → Prop} (qb : ∀ y I, Q (.inl y) I → At L X (d + 1) 300 45 [(112, .ref 207), (0, .int x1), (0, .int y.1), (0, .int y.2)] [] I o) (qe72 : ∀ y I, Q (.inr y) I → At L X (d + 1) 300 72 [(112, .ref 207), (0, .int x1), (0, .int y), (0, dV)] [] I o) (y : Int32 × Int32) (I : MI) (r : (Int32 × Int32) ⊕ ((Int32))) (I1 : MI) (h : B_R_least_45 x1 y I = some (r, I1)) (hq : Q r I1) : At L X (d + 1) 300 45 [(112, .ref 207), (0, .int x1), (0, .int y.1), (0, .int y.2)] [] I o := by
  refine wf_ok z_R_least hcs ?_ ?_ _ _ _ _ _ ⟨rfl, trivial, trivial, trivial, trivial⟩ trivial (unm_refl _ _) ((congrFun (e_b_R_least_45 (L := L) (X := X) F_R_coatsAt F_R_isIn F_R_onesOf F_R_watchSet x1 y) I).trans h)
  · intro pc ls st I2 h1 h2 h3 h
    rcases mC_ok h with ⟨hb, h⟩ | ⟨_, h⟩
    · have e := Nat.eq_of_beq_eq_true hb
      subst e
      obtain ⟨hst, h⟩ := mN_ok h
      subst hst
      obtain ⟨a2, n2, h⟩ := gI_ok h
      obtain ⟨a3, n3, h⟩ := gI_ok h
      refine at_leaf (ls2 := [(112, .ref 207), (0, .int x1), (0, .int a2), (0, .int a3)]) h3.1 ⟨Or.inr ⟨_, (h3.2 0 rfl).trans rfl⟩, Or.inr ⟨_, (h3.2 1 rfl).trans rfl⟩, Or.inr n2, Or.inr n3, trivial⟩ ?_
      cases h; exact qb _ _ hq
    rcases mC_ok h with ⟨hb, h⟩ | ⟨_, h⟩
    · have e := Nat.eq_of_beq_eq_true hb
      subst e
      obtain ⟨hst, h⟩ := mN_ok h
      subst hst
      obtain ⟨a2, n2, h⟩ := gI_ok h
      obtain ⟨n3, h⟩ := gD_ok h
      refine at_leaf (ls2 := [(112, .ref 207), (0, .int x1), (0, .int a2), (0, dV)]) h3.1 ⟨Or.inr ⟨_, (h3.2 0 rfl).trans rfl⟩, Or.inr ⟨_, (h3.2 1 rfl).trans rfl⟩, Or.inr n2, Or.inl ⟨rfl, n3⟩, trivial⟩ ?_
      cases h; exact qe72 _ _ hq
    cases h
  · intro v I2 _ h
    cases h
def K_R_least_72 (x1 : Int32) (x2 : Int32) : M (Int32) :=
  (if x1 = 0 then
    bn (F_R_coatsAt x2) fun v1 =>
    rt v1
  else
    rt x2)
set_option maxRecDepth 4000 in
theorem e_s_R_least_72 (f_R_coatsAt : Int32 → M Int32) (f_R_isIn : Int32 → Int32 → Int32 → M Int32) (f_R_onesOf : Int32 → M Int32) (f_R_watchSet : M Int32) (x1 : Int32) (x2 : Int32) : wf (β := Int32) L X q_R_least 1 (cs_R_least f_R_coatsAt f_R_isIn f_R_onesOf f_R_watchSet) [] [45, 72] (fun _ _ _ => fl) (fun v => match v with | some (_, .int x) => rt x | _ => fl) 56 72 [(112, .ref 207), (0, .int x1), (0, .int x2), (0, dV)] [] = ((if x1 = 0 then
    bn (f_R_coatsAt x2) fun v1 =>
    rt v1
  else
    rt x2)) := rfl
theorem s_R_least_72 {d : Nat} (hcs : AllS L X d (cs_R_least F_R_coatsAt F_R_isIn F_R_onesOf F_R_watchSet)) (x1 : Int32) (x2 : Int32) {o : Option Value × PH} {Q : (Int32) → MI → Prop} (q0 : ∀ v I, Q v I → o = (some (.int v), HH I)) (I : MI) (r : Int32) (I1 : MI) (h : K_R_least_72 x1 x2 I = some (r, I1)) (hq : Q r I1) : At L X (d + 1) 300 72 [(112, .ref 207), (0, .int x1), (0, .int x2), (0, dV)] [] I o := by
  refine wf_ok z_R_least hcs ?_ ?_ _ _ _ _ _ ⟨rfl, trivial, trivial, trivial, trivial⟩ trivial (unm_refl _ _) ((congrFun (e_s_R_least_72 (L := L) (X := X) F_R_coatsAt F_R_isIn F_R_onesOf F_R_watchSet x1 x2) I).trans h)
  · intro pc ls st I2 h1 h2 h3 h
    cases h
  · intro v I2 _ h
    split at h
    · cases h; exact q0 _ _ hq
    · cases h
def K_R_least_45 (x1 : Int32) (x2 : Int32) (x3 : Int32) : M (Int32) :=
  bn (lp (B_R_least_45 x1) FU (x2, x3)) fun e => K_R_least_72 x1 e
theorem s_R_least_45 {d : Nat} (hcs : AllS L X d (cs_R_least F_R_coatsAt F_R_isIn F_R_onesOf F_R_watchSet)) (x1 : Int32) (x2 : Int32) (x3 : Int32) {o : Option Value × PH} {Q : (Int32) → MI → Prop} (q0 : ∀ v I, Q v I → o = (some (.int v), HH I)) (I : MI) (r : Int32) (I1 : MI) (h : K_R_least_45 x1 x2 x3 I = some (r, I1)) (hq : Q r I1) : At L X (d + 1) 300 45 [(112, .ref 207), (0, .int x1), (0, .int x2), (0, .int x3)] [] I o := by
  unfold K_R_least_45 at h
  obtain ⟨e, I2, h1, h2⟩ := bn_some h
  have w0 := fun w => at_lp (body := B_R_least_45 x1) (P := (fun (y : Int32 × Int32) I => At L X (d + 1) 300 45 [(112, .ref 207), (0, .int x1), (0, .int y.1), (0, .int y.2)] [] I o)) (Q := (fun (e : (Int32)) I => (K_R_least_72 x1 e) I = some (r, I1))) w FU (x2, x3) I e I2 h1 h2
  refine w0 ?_
  intro y I r2 I3 h hq2
  exact b_R_least_45 hcs x1 (Q := SQ (fun (y : Int32 × Int32) I => At L X (d + 1) 300 45 [(112, .ref 207), (0, .int x1), (0, .int y.1), (0, .int y.2)] [] I o) (fun (e : (Int32)) I => (K_R_least_72 x1 e) I = some (r, I1))) (fun _ _ w => w) (fun y I w => s_R_least_72 hcs x1 y q0 _ _ _ w hq) y I r2 I3 h hq2
def F_R_least (x1 : Int32) : M (Int32) :=
  bn (wr 207 0 (0 : Int32)) fun _ =>
  bn (F_R_isIn x1 (0 : Int32) (3 : Int32)) fun v1 =>
  (if v1 = 0 then
    rt (-1 : Int32)
  else
    (if x1 = (2 : Int32) then
      bn (F_R_watchSet) fun v3 =>
      bn (F_R_onesOf v3) fun v4 =>
      rt v4
    else
      (if x1 = (3 : Int32) then
        bn (F_R_watchSet) fun v2 =>
        rt v2
      else
        K_R_least_45 x1 (0 : Int32) (1 : Int32))))
set_option maxRecDepth 4000 in
theorem e_s_R_least_0 (f_R_coatsAt : Int32 → M Int32) (f_R_isIn : Int32 → Int32 → Int32 → M Int32) (f_R_onesOf : Int32 → M Int32) (f_R_watchSet : M Int32) (k_45 : Int32 → Int32 → Int32 → M (Int32)) (x1 : Int32) : wf (β := Int32) L X q_R_least 1 (cs_R_least f_R_coatsAt f_R_isIn f_R_onesOf f_R_watchSet) [2, 3] [45, 72] (fun pc ls st => mC (Nat.beq pc 45) (mN st <| gI ls 2 fun a2 => gI ls 3 fun a3 => k_45 x1 a2 a3) (fl)) (fun v => match v with | some (_, .int x) => rt x | _ => fl) 56 0 [(112, .ref 207), (0, .int x1), (0, dV), (0, dV)] [] = (bn (wr 207 0 (0 : Int32)) fun _ =>
  bn (f_R_isIn x1 (0 : Int32) (3 : Int32)) fun v1 =>
  (if v1 = 0 then
    rt (-1 : Int32)
  else
    (if x1 = (2 : Int32) then
      bn (f_R_watchSet) fun v3 =>
      bn (f_R_onesOf v3) fun v4 =>
      rt v4
    else
      (if x1 = (3 : Int32) then
        bn (f_R_watchSet) fun v2 =>
        rt v2
      else
        k_45 x1 (0 : Int32) (1 : Int32))))) := rfl
theorem s_R_least_0 {d : Nat} (hcs : AllS L X d (cs_R_least F_R_coatsAt F_R_isIn F_R_onesOf F_R_watchSet)) (x1 : Int32) {o : Option Value × PH} {Q : (Int32) → MI → Prop} (q0 : ∀ v I, Q v I → o = (some (.int v), HH I)) (I : MI) (r : Int32) (I1 : MI) (h : F_R_least x1 I = some (r, I1)) (hq : Q r I1) : At L X (d + 1) 300 0 [(112, .ref 207), (0, .int x1), (0, dV), (0, dV)] [] I o := by
  refine wf_ok z_R_least hcs ?_ ?_ _ _ _ _ _ ⟨rfl, trivial, trivial, trivial, trivial⟩ trivial (unm_refl _ _) ((congrFun (e_s_R_least_0 (L := L) (X := X) F_R_coatsAt F_R_isIn F_R_onesOf F_R_watchSet K_R_least_45 x1) I).trans h)
  · intro pc ls st I2 h1 h2 h3 h
    rcases mC_ok h with ⟨hb, h⟩ | ⟨_, h⟩
    · have e := Nat.eq_of_beq_eq_true hb
      subst e
      obtain ⟨hst, h⟩ := mN_ok h
      subst hst
      obtain ⟨a2, n2, h⟩ := gI_ok h
      obtain ⟨a3, n3, h⟩ := gI_ok h
      refine at_leaf (ls2 := [(112, .ref 207), (0, .int x1), (0, .int a2), (0, .int a3)]) h3.1 ⟨Or.inr ⟨_, (h3.2 0 rfl).trans rfl⟩, Or.inr ⟨_, (h3.2 1 rfl).trans rfl⟩, Or.inr n2, Or.inr n3, trivial⟩ ?_
      exact s_R_least_45 hcs x1 a2 a3 q0 _ _ _ h hq
    cases h
  · intro v I2 _ h
    split at h
    · cases h; exact q0 _ _ hq
    · cases h
theorem w_R_least {d : Nat} (hcs : AllS L X d (cs_R_least F_R_coatsAt F_R_isIn F_R_onesOf F_R_watchSet)) : Snd L X (d + 1) 300 2 (W_R_least F_R_least) := by
  refine ⟨_, z_R_least, rfl, fun β args k I r hty hlen h => ?_⟩
  unfold W_R_least at h
  split at h
  · rename_i t0 a0 u1 a1
    obtain ⟨hb0, h⟩ := mB_ok h
    have e0 := Nat.eq_of_beq_eq_true hb0
    have g0 : okB 112 a0 = true := e0 ▸ hty.1
    have e20 := one_112 g0
    subst e20
    obtain ⟨v, I1, h1, h2⟩ := bn_some h
    refine ⟨gf_obj (c := 12) (by decide) g0, rfl, some (0, .int v), I1, trivial, ?_, h2⟩
    exact s_R_least_0 hcs a1  (Q := fun w I => w = v ∧ I = I1) (fun w I q => by obtain ⟨rfl, rfl⟩ := q; rfl) I v I1 h1 ⟨rfl, rfl⟩
  · cases h
theorem S_R_least {d : Nat} (hd : 3 ≤ d) : Snd L X d 300 2 (W_R_least F_R_least) := by
  obtain ⟨e, rfl⟩ : ∃ e, d = e + 1 := ⟨d - 1, by omega⟩
  exact w_R_least ⟨S_R_coatsAt (by omega), S_R_isIn (by omega), S_R_onesOf (by omega), S_R_watchSet (by omega), trivial⟩
set_option maxRecDepth 100000 in
theorem z_R_letter : pT[305]? = some (q_R_letter, 3, 3, 1, 12) := rfl
def W_R_letter (F : Int32 → Int32 → M Int32) : CSem := fun _ args k => match args with
  | [(t0, .ref a0), (_, .int a1), (_, .int a2)] => mB (Nat.beq t0 112) <| bn (F a1 a2) fun v => k (some (0, .int v))
  | _ => fl
def cs_R_letter (f_R_isIn : Int32 → Int32 → Int32 → M Int32) : List (Nat × Nat × CSem) := [(195, 4, W_R_isIn f_R_isIn)]
def F_R_letter (x1 : Int32) (x2 : Int32) : M (Int32) :=
  bn (wr 207 0 (0 : Int32)) fun _ =>
  bn (F_R_isIn x1 (0 : Int32) (1 : Int32)) fun v1 =>
  (if v1 = 0 then
    rt (-1 : Int32)
  else
    (if x2 = (-1 : Int32) then
      bn (sr 2 242 x1 (0 : Int32)) fun _ =>
      rt (0 : Int32)
    else
      bn (F_R_isIn x2 (0 : Int32) (25 : Int32)) fun v2 =>
      (if v2 = 0 then
        rt (-1 : Int32)
      else
        bn (ld 2 242 x1) fun v3 =>
        (if v3 = (12 : Int32) then
          rt (-1 : Int32)
        else
          bn (ld 2 242 x1) fun v4 =>
          bn (sr 24 243 (((12 : Int32) * x1) + v4) x2) fun _ =>
          bn (ld 2 242 x1) fun v5 =>
          bn (sr 2 242 x1 (v5 + (1 : Int32))) fun _ =>
          bn (ld 2 242 x1) fun v6 =>
          rt v6))))
set_option maxRecDepth 4000 in
theorem e_s_R_letter_0 (f_R_isIn : Int32 → Int32 → Int32 → M Int32) (x1 : Int32) (x2 : Int32) : wf (β := Int32) L X q_R_letter 1 (cs_R_letter f_R_isIn) [] [] (fun _ _ _ => fl) (fun v => match v with | some (_, .int x) => rt x | _ => fl) 67 0 [(112, .ref 207), (0, .int x1), (0, .int x2)] [] = (bn (wr 207 0 (0 : Int32)) fun _ =>
  bn (f_R_isIn x1 (0 : Int32) (1 : Int32)) fun v1 =>
  (if v1 = 0 then
    rt (-1 : Int32)
  else
    (if x2 = (-1 : Int32) then
      bn (sr 2 242 x1 (0 : Int32)) fun _ =>
      rt (0 : Int32)
    else
      bn (f_R_isIn x2 (0 : Int32) (25 : Int32)) fun v2 =>
      (if v2 = 0 then
        rt (-1 : Int32)
      else
        bn (ld 2 242 x1) fun v3 =>
        (if v3 = (12 : Int32) then
          rt (-1 : Int32)
        else
          bn (ld 2 242 x1) fun v4 =>
          bn (sr 24 243 (((12 : Int32) * x1) + v4) x2) fun _ =>
          bn (ld 2 242 x1) fun v5 =>
          bn (sr 2 242 x1 (v5 + (1 : Int32))) fun _ =>
          bn (ld 2 242 x1) fun v6 =>
          rt v6))))) := rfl
theorem s_R_letter_0 {d : Nat} (hcs : AllS L X d (cs_R_letter F_R_isIn)) (x1 : Int32) (x2 : Int32) {o : Option Value × PH} {Q : (Int32) → MI → Prop} (q0 : ∀ v I, Q v I → o = (some (.int v), HH I)) (I : MI) (r : Int32) (I1 : MI) (h : F_R_letter x1 x2 I = some (r, I1)) (hq : Q r I1) : At L X (d + 1) 305 0 [(112, .ref 207), (0, .int x1), (0, .int x2)] [] I o := by
  refine wf_ok z_R_letter hcs ?_ ?_ _ _ _ _ _ ⟨rfl, trivial, trivial, trivial⟩ trivial (unm_refl _ _) ((congrFun (e_s_R_letter_0 (L := L) (X := X) F_R_isIn x1 x2) I).trans h)
  · intro pc ls st I2 h1 h2 h3 h
    cases h
  · intro v I2 _ h
    split at h
    · cases h; exact q0 _ _ hq
    · cases h
theorem w_R_letter {d : Nat} (hcs : AllS L X d (cs_R_letter F_R_isIn)) : Snd L X (d + 1) 305 3 (W_R_letter F_R_letter) := by
  refine ⟨_, z_R_letter, rfl, fun β args k I r hty hlen h => ?_⟩
  unfold W_R_letter at h
  split at h
  · rename_i t0 a0 u1 a1 u2 a2
    obtain ⟨hb0, h⟩ := mB_ok h
    have e0 := Nat.eq_of_beq_eq_true hb0
    have g0 : okB 112 a0 = true := e0 ▸ hty.1
    have e20 := one_112 g0
    subst e20
    obtain ⟨v, I1, h1, h2⟩ := bn_some h
    refine ⟨gf_obj (c := 12) (by decide) g0, rfl, some (0, .int v), I1, trivial, ?_, h2⟩
    exact s_R_letter_0 hcs a1 a2  (Q := fun w I => w = v ∧ I = I1) (fun w I q => by obtain ⟨rfl, rfl⟩ := q; rfl) I v I1 h1 ⟨rfl, rfl⟩
  · cases h
theorem S_R_letter {d : Nat} (hd : 2 ≤ d) : Snd L X d 305 3 (W_R_letter F_R_letter) := by
  obtain ⟨e, rfl⟩ : ∃ e, d = e + 1 := ⟨d - 1, by omega⟩
  exact w_R_letter ⟨S_R_isIn (by omega), trivial⟩
set_option maxRecDepth 100000 in
theorem z_R_loan : pT[319]? = some (q_R_loan, 4, 5, 1, 12) := rfl
def W_R_loan (F : Int32 → Int32 → Int32 → M Int32) : CSem := fun _ args k => match args with
  | [(t0, .ref a0), (_, .int a1), (_, .int a2), (_, .int a3)] => mB (Nat.beq t0 112) <| bn (F a1 a2 a3) fun v => k (some (0, .int v))
  | _ => fl
def cs_R_loan (f_R_isIn : Int32 → Int32 → Int32 → M Int32) : List (Nat × Nat × CSem) := [(195, 4, W_R_isIn f_R_isIn)]
def B_R_loan_18 (y : Int32) : M ((Int32) ⊕ (Int32)) :=
  (if y < (6 : Int32) then
    bn (sr 6 250 y (0 : Int32)) fun _ =>
    rt (.inl (y + (1 : Int32)))
  else
    rt (.inr (0 : Int32)))
set_option maxRecDepth 4000 in
theorem e_b_R_loan_18 (f_R_isIn : Int32 → Int32 → Int32 → M Int32) (y : Int32) : wf (β := (Int32) ⊕ (Int32)) L X q_R_loan 1 (cs_R_loan f_R_isIn) [4] [18] (fun pc ls st => mC (Nat.beq pc 18) (mN st <| gD ls 1 <| gD ls 2 <| gD ls 3 <| gI ls 4 fun a4 => rt (.inl a4)) (fl)) (fun v => match v with | some (_, .int x) => rt (.inr x) | _ => fl) 84 18 [(112, .ref 207), (0, dV), (0, dV), (0, dV), (0, .int y)] [] = ((if y < (6 : Int32) then
    bn (sr 6 250 y (0 : Int32)) fun _ =>
    rt (.inl (y + (1 : Int32)))
  else
    rt (.inr (0 : Int32)))) := rfl
theorem b_R_loan_18 {d : Nat} (hcs : AllS L X d (cs_R_loan F_R_isIn)) {o : Option Value × PH} {Q : ((Int32) ⊕ (Int32)) → MI → Prop} (qb : ∀ y I, Q (.inl y) I → At L X (d + 1) 319 18 [(112, .ref 207), (0, dV), (0, dV), (0, dV), (0, .int y)] [] I o) (qr : ∀ v I, Q (.inr v) I → o = (some (.int v), HH I)) (y : Int32) (I : MI) (r : (Int32) ⊕ (Int32)) (I1 : MI) (h : B_R_loan_18 y I = some (r, I1)) (hq : Q r I1) : At L X (d + 1) 319 18 [(112, .ref 207), (0, dV), (0, dV), (0, dV), (0, .int y)] [] I o := by
  refine wf_ok z_R_loan hcs ?_ ?_ _ _ _ _ _ ⟨rfl, trivial, trivial, trivial, trivial, trivial⟩ trivial (unm_refl _ _) ((congrFun (e_b_R_loan_18 (L := L) (X := X) F_R_isIn y) I).trans h)
  · intro pc ls st I2 h1 h2 h3 h
    rcases mC_ok h with ⟨hb, h⟩ | ⟨_, h⟩
    · have e := Nat.eq_of_beq_eq_true hb
      subst e
      obtain ⟨hst, h⟩ := mN_ok h
      subst hst
      obtain ⟨n1, h⟩ := gD_ok h
      obtain ⟨n2, h⟩ := gD_ok h
      obtain ⟨n3, h⟩ := gD_ok h
      obtain ⟨a4, n4, h⟩ := gI_ok h
      refine at_leaf (ls2 := [(112, .ref 207), (0, dV), (0, dV), (0, dV), (0, .int a4)]) h3.1 ⟨Or.inr ⟨_, (h3.2 0 rfl).trans rfl⟩, Or.inl ⟨rfl, n1⟩, Or.inl ⟨rfl, n2⟩, Or.inl ⟨rfl, n3⟩, Or.inr n4, trivial⟩ ?_
      cases h; exact qb _ _ hq
    cases h
  · intro v I2 _ h
    split at h
    · cases h; exact qr _ _ hq
    · cases h
def K_R_loan_18 (x4 : Int32) : M (Int32) :=
  lp (B_R_loan_18) FU x4
theorem s_R_loan_18 {d : Nat} (hcs : AllS L X d (cs_R_loan F_R_isIn)) (x4 : Int32) {o : Option Value × PH} {Q : (Int32) → MI → Prop} (q0 : ∀ v I, Q v I → o = (some (.int v), HH I)) (I : MI) (r : Int32) (I1 : MI) (h : K_R_loan_18 x4 I = some (r, I1)) (hq : Q r I1) : At L X (d + 1) 319 18 [(112, .ref 207), (0, dV), (0, dV), (0, dV), (0, .int x4)] [] I o := by
  unfold K_R_loan_18 at h
  have w0 := fun w => at_lp (body := B_R_loan_18) (P := (fun (y : Int32) I => At L X (d + 1) 319 18 [(112, .ref 207), (0, dV), (0, dV), (0, dV), (0, .int y)] [] I o)) (Q := (fun (e : Int32) I => Q e I)) w FU x4 I r I1 h hq
  refine w0 ?_
  intro y I r I1 h hq
  exact b_R_loan_18 hcs (Q := SQ (fun (y : Int32) I => At L X (d + 1) 319 18 [(112, .ref 207), (0, dV), (0, dV), (0, dV), (0, .int y)] [] I o) (fun (e : Int32) I => Q e I)) (fun _ _ w => w) q0 y I r I1 h hq
def F_R_loan (x1 : Int32) (x2 : Int32) (x3 : Int32) : M (Int32) :=
  bn (wr 207 0 (0 : Int32)) fun _ =>
  (if x1 = (-1 : Int32) then
    bn (wr 207 70 (0 : Int32)) fun _ =>
    K_R_loan_18 (0 : Int32)
  else
    bn (F_R_isIn x1 (0 : Int32) (5 : Int32)) fun v1 =>
    (if v1 = 0 then
      rt (-1 : Int32)
    else
      bn (F_R_isIn x2 (0 : Int32) (5 : Int32)) fun v2 =>
      (if v2 = 0 then
        rt (-1 : Int32)
      else
        (if x1 = x2 then
          rt (-1 : Int32)
        else
          bn (F_R_isIn x3 (1 : Int32) (99 : Int32)) fun v3 =>
          (if v3 = 0 then
            rt (-1 : Int32)
          else
            bn (rd 207 70) fun v4 =>
            (if v4 = (8 : Int32) then
              rt (-1 : Int32)
            else
              bn (ld 6 250 x1) fun v5 =>
              bn (sr 6 250 x1 (v5 + x3)) fun _ =>
              bn (ld 6 250 x2) fun v6 =>
              bn (sr 6 250 x2 (v6 - x3)) fun _ =>
              bn (rd 207 70) fun v7 =>
              bn (wr 207 70 (v7 + (1 : Int32))) fun _ =>
              bn (rd 207 70) fun v8 =>
              rt v8))))))
set_option maxRecDepth 4000 in
theorem e_s_R_loan_0 (f_R_isIn : Int32 → Int32 → Int32 → M Int32) (k_18 : Int32 → M (Int32)) (x1 : Int32) (x2 : Int32) (x3 : Int32) : wf (β := Int32) L X q_R_loan 1 (cs_R_loan f_R_isIn) [4] [18] (fun pc ls st => mC (Nat.beq pc 18) (mN st <| gD ls 1 <| gD ls 2 <| gD ls 3 <| gI ls 4 fun a4 => k_18 a4) (fl)) (fun v => match v with | some (_, .int x) => rt x | _ => fl) 84 0 [(112, .ref 207), (0, .int x1), (0, .int x2), (0, .int x3), (0, dV)] [] = (bn (wr 207 0 (0 : Int32)) fun _ =>
  (if x1 = (-1 : Int32) then
    bn (wr 207 70 (0 : Int32)) fun _ =>
    k_18 (0 : Int32)
  else
    bn (f_R_isIn x1 (0 : Int32) (5 : Int32)) fun v1 =>
    (if v1 = 0 then
      rt (-1 : Int32)
    else
      bn (f_R_isIn x2 (0 : Int32) (5 : Int32)) fun v2 =>
      (if v2 = 0 then
        rt (-1 : Int32)
      else
        (if x1 = x2 then
          rt (-1 : Int32)
        else
          bn (f_R_isIn x3 (1 : Int32) (99 : Int32)) fun v3 =>
          (if v3 = 0 then
            rt (-1 : Int32)
          else
            bn (rd 207 70) fun v4 =>
            (if v4 = (8 : Int32) then
              rt (-1 : Int32)
            else
              bn (ld 6 250 x1) fun v5 =>
              bn (sr 6 250 x1 (v5 + x3)) fun _ =>
              bn (ld 6 250 x2) fun v6 =>
              bn (sr 6 250 x2 (v6 - x3)) fun _ =>
              bn (rd 207 70) fun v7 =>
              bn (wr 207 70 (v7 + (1 : Int32))) fun _ =>
              bn (rd 207 70) fun v8 =>
              rt v8))))))) := rfl
theorem s_R_loan_0 {d : Nat} (hcs : AllS L X d (cs_R_loan F_R_isIn)) (x1 : Int32) (x2 : Int32) (x3 : Int32) {o : Option Value × PH} {Q : (Int32) → MI → Prop} (q0 : ∀ v I, Q v I → o = (some (.int v), HH I)) (I : MI) (r : Int32) (I1 : MI) (h : F_R_loan x1 x2 x3 I = some (r, I1)) (hq : Q r I1) : At L X (d + 1) 319 0 [(112, .ref 207), (0, .int x1), (0, .int x2), (0, .int x3), (0, dV)] [] I o := by
  refine wf_ok z_R_loan hcs ?_ ?_ _ _ _ _ _ ⟨rfl, trivial, trivial, trivial, trivial, trivial⟩ trivial (unm_refl _ _) ((congrFun (e_s_R_loan_0 (L := L) (X := X) F_R_isIn K_R_loan_18 x1 x2 x3) I).trans h)
  · intro pc ls st I2 h1 h2 h3 h
    rcases mC_ok h with ⟨hb, h⟩ | ⟨_, h⟩
    · have e := Nat.eq_of_beq_eq_true hb
      subst e
      obtain ⟨hst, h⟩ := mN_ok h
      subst hst
      obtain ⟨n1, h⟩ := gD_ok h
      obtain ⟨n2, h⟩ := gD_ok h
      obtain ⟨n3, h⟩ := gD_ok h
      obtain ⟨a4, n4, h⟩ := gI_ok h
      refine at_leaf (ls2 := [(112, .ref 207), (0, dV), (0, dV), (0, dV), (0, .int a4)]) h3.1 ⟨Or.inr ⟨_, (h3.2 0 rfl).trans rfl⟩, Or.inl ⟨rfl, n1⟩, Or.inl ⟨rfl, n2⟩, Or.inl ⟨rfl, n3⟩, Or.inr n4, trivial⟩ ?_
      exact s_R_loan_18 hcs a4 q0 _ _ _ h hq
    cases h
  · intro v I2 _ h
    split at h
    · cases h; exact q0 _ _ hq
    · cases h
theorem w_R_loan {d : Nat} (hcs : AllS L X d (cs_R_loan F_R_isIn)) : Snd L X (d + 1) 319 4 (W_R_loan F_R_loan) := by
  refine ⟨_, z_R_loan, rfl, fun β args k I r hty hlen h => ?_⟩
  unfold W_R_loan at h
  split at h
  · rename_i t0 a0 u1 a1 u2 a2 u3 a3
    obtain ⟨hb0, h⟩ := mB_ok h
    have e0 := Nat.eq_of_beq_eq_true hb0
    have g0 : okB 112 a0 = true := e0 ▸ hty.1
    have e20 := one_112 g0
    subst e20
    obtain ⟨v, I1, h1, h2⟩ := bn_some h
    refine ⟨gf_obj (c := 12) (by decide) g0, rfl, some (0, .int v), I1, trivial, ?_, h2⟩
    exact s_R_loan_0 hcs a1 a2 a3  (Q := fun w I => w = v ∧ I = I1) (fun w I q => by obtain ⟨rfl, rfl⟩ := q; rfl) I v I1 h1 ⟨rfl, rfl⟩
  · cases h
theorem S_R_loan {d : Nat} (hd : 2 ≤ d) : Snd L X d 319 4 (W_R_loan F_R_loan) := by
  obtain ⟨e, rfl⟩ : ∃ e, d = e + 1 := ⟨d - 1, by omega⟩
  exact w_R_loan ⟨S_R_isIn (by omega), trivial⟩
set_option maxRecDepth 100000 in
theorem z_R_look : pT[330]? = some (q_R_look, 2, 4, 1, 12) := rfl
def W_R_look (F : Int32 → M Int32) : CSem := fun _ args k => match args with
  | [(t0, .ref a0), (_, .int a1)] => mB (Nat.beq t0 112) <| bn (F a1) fun v => k (some (0, .int v))
  | _ => fl
def cs_R_look (f_R_isStruck : Int32 → M Int32) : List (Nat × Nat × CSem) := [(246, 2, W_R_isStruck f_R_isStruck)]
def B_R_look_181 (y : Int32 × Int32) : M ((Int32 × Int32) ⊕ (Int32)) :=
  bn (rd 207 7) fun v1 =>
  (if y.2 < v1 then
    bn (F_R_isStruck y.2) fun v2 =>
    (if v2 = 0 then
      rt (.inl (y.1, (y.2 + (1 : Int32))))
    else
      rt (.inl ((y.1 ||| ((1 : Int32) <<< (y.2 &&& 31))), (y.2 + (1 : Int32)))))
  else
    rt (.inr y.1))
set_option maxRecDepth 4000 in
theorem e_b_R_look_181 (f_R_isStruck : Int32 → M Int32) (y : Int32 × Int32) : wf (β := (Int32 × Int32) ⊕ (Int32)) L X q_R_look 1 (cs_R_look f_R_isStruck) [2, 3] [181] (fun pc ls st => mC (Nat.beq pc 181) (mN st <| gD ls 1 <| gI ls 2 fun a2 => gI ls 3 fun a3 => rt (.inl (a2, a3))) (fl)) (fun v => match v with | some (_, .int x) => rt (.inr x) | _ => fl) 134 181 [(112, .ref 207), (0, dV), (0, .int y.1), (0, .int y.2)] [] = (bn (rd 207 7) fun v1 =>
  (if y.2 < v1 then
    bn (f_R_isStruck y.2) fun v2 =>
    (if v2 = 0 then
      rt (.inl (y.1, (y.2 + (1 : Int32))))
    else
      rt (.inl ((y.1 ||| ((1 : Int32) <<< (y.2 &&& 31))), (y.2 + (1 : Int32)))))
  else
    rt (.inr y.1))) := rfl
theorem b_R_look_181 {d : Nat} (hcs : AllS L X d (cs_R_look F_R_isStruck)) {o : Option Value × PH} {Q : ((Int32 × Int32) ⊕ (Int32)) → MI → Prop} (qb : ∀ y I, Q (.inl y) I → At L X (d + 1) 330 181 [(112, .ref 207), (0, dV), (0, .int y.1), (0, .int y.2)] [] I o) (qr : ∀ v I, Q (.inr v) I → o = (some (.int v), HH I)) (y : Int32 × Int32) (I : MI) (r : (Int32 × Int32) ⊕ (Int32)) (I1 : MI) (h : B_R_look_181 y I = some (r, I1)) (hq : Q r I1) : At L X (d + 1) 330 181 [(112, .ref 207), (0, dV), (0, .int y.1), (0, .int y.2)] [] I o := by
  refine wf_ok z_R_look hcs ?_ ?_ _ _ _ _ _ ⟨rfl, trivial, trivial, trivial, trivial⟩ trivial (unm_refl _ _) ((congrFun (e_b_R_look_181 (L := L) (X := X) F_R_isStruck y) I).trans h)
  · intro pc ls st I2 h1 h2 h3 h
    rcases mC_ok h with ⟨hb, h⟩ | ⟨_, h⟩
    · have e := Nat.eq_of_beq_eq_true hb
      subst e
      obtain ⟨hst, h⟩ := mN_ok h
      subst hst
      obtain ⟨n1, h⟩ := gD_ok h
      obtain ⟨a2, n2, h⟩ := gI_ok h
      obtain ⟨a3, n3, h⟩ := gI_ok h
      refine at_leaf (ls2 := [(112, .ref 207), (0, dV), (0, .int a2), (0, .int a3)]) h3.1 ⟨Or.inr ⟨_, (h3.2 0 rfl).trans rfl⟩, Or.inl ⟨rfl, n1⟩, Or.inr n2, Or.inr n3, trivial⟩ ?_
      cases h; exact qb _ _ hq
    cases h
  · intro v I2 _ h
    split at h
    · cases h; exact qr _ _ hq
    · cases h
def K_R_look_181 (x2 : Int32) (x3 : Int32) : M (Int32) :=
  lp (B_R_look_181) FU (x2, x3)
theorem s_R_look_181 {d : Nat} (hcs : AllS L X d (cs_R_look F_R_isStruck)) (x2 : Int32) (x3 : Int32) {o : Option Value × PH} {Q : (Int32) → MI → Prop} (q0 : ∀ v I, Q v I → o = (some (.int v), HH I)) (I : MI) (r : Int32) (I1 : MI) (h : K_R_look_181 x2 x3 I = some (r, I1)) (hq : Q r I1) : At L X (d + 1) 330 181 [(112, .ref 207), (0, dV), (0, .int x2), (0, .int x3)] [] I o := by
  unfold K_R_look_181 at h
  have w0 := fun w => at_lp (body := B_R_look_181) (P := (fun (y : Int32 × Int32) I => At L X (d + 1) 330 181 [(112, .ref 207), (0, dV), (0, .int y.1), (0, .int y.2)] [] I o)) (Q := (fun (e : Int32) I => Q e I)) w FU (x2, x3) I r I1 h hq
  refine w0 ?_
  intro y I r I1 h hq
  exact b_R_look_181 hcs (Q := SQ (fun (y : Int32 × Int32) I => At L X (d + 1) 330 181 [(112, .ref 207), (0, dV), (0, .int y.1), (0, .int y.2)] [] I o) (fun (e : Int32) I => Q e I)) (fun _ _ w => w) q0 y I r I1 h hq
def F_R_look (x1 : Int32) : M (Int32) :=
  bn (wr 207 0 (0 : Int32)) fun _ =>
  (if x1 = 0 then
    bn (rd 207 6) fun v14 =>
    rt v14
  else
    (if x1 = (1 : Int32) then
      bn (rd 207 7) fun v13 =>
      rt v13
    else
      (if x1 = (2 : Int32) then
        bn (ld 95 208 (4 : Int32)) fun v12 =>
        rt v12
      else
        (if x1 = (3 : Int32) then
          bn (ld 95 208 (5 : Int32)) fun v11 =>
          rt v11
        else
          (if x1 = (4 : Int32) then
            bn (ld 95 208 (6 : Int32)) fun v10 =>
            rt v10
          else
            (if x1 = (5 : Int32) then
              bn (ld 95 208 (1 : Int32)) fun v9 =>
              rt v9
            else
              (if x1 = (6 : Int32) then
                bn (ld 95 208 (0 : Int32)) fun v8 =>
                rt v8
              else
                (if x1 = (8 : Int32) then
                  bn (ld 95 208 (3 : Int32)) fun v7 =>
                  rt v7
                else
                  (if x1 = (9 : Int32) then
                    bn (ld 95 208 (2 : Int32)) fun v6 =>
                    rt v6
                  else
                    (if x1 = (10 : Int32) then
                      bn (ld 2 218 (0 : Int32)) fun v5 =>
                      rt v5
                    else
                      (if x1 = (11 : Int32) then
                        bn (rd 207 36) fun v4 =>
                        rt v4
                      else
                        (if x1 = (12 : Int32) then
                          bn (rd 207 38) fun v3 =>
                          rt v3
                        else
                          (if x1 = (13 : Int32) then
                            bn (rd 207 40) fun v2 =>
                            rt v2
                          else
                            (if x1 = (14 : Int32) then
                              bn (rd 207 3) fun v1 =>
                              rt v1
                            else
                              (if x1 = (7 : Int32) then
                                K_R_look_181 (0 : Int32) (0 : Int32)
                              else
                                rt (-1 : Int32))))))))))))))))
set_option maxRecDepth 4000 in
theorem e_s_R_look_0 (f_R_isStruck : Int32 → M Int32) (k_181 : Int32 → Int32 → M (Int32)) (x1 : Int32) : wf (β := Int32) L X q_R_look 1 (cs_R_look f_R_isStruck) [2, 3] [181] (fun pc ls st => mC (Nat.beq pc 181) (mN st <| gD ls 1 <| gI ls 2 fun a2 => gI ls 3 fun a3 => k_181 a2 a3) (fl)) (fun v => match v with | some (_, .int x) => rt x | _ => fl) 134 0 [(112, .ref 207), (0, .int x1), (0, dV), (0, dV)] [] = (bn (wr 207 0 (0 : Int32)) fun _ =>
  (if x1 = 0 then
    bn (rd 207 6) fun v14 =>
    rt v14
  else
    (if x1 = (1 : Int32) then
      bn (rd 207 7) fun v13 =>
      rt v13
    else
      (if x1 = (2 : Int32) then
        bn (ld 95 208 (4 : Int32)) fun v12 =>
        rt v12
      else
        (if x1 = (3 : Int32) then
          bn (ld 95 208 (5 : Int32)) fun v11 =>
          rt v11
        else
          (if x1 = (4 : Int32) then
            bn (ld 95 208 (6 : Int32)) fun v10 =>
            rt v10
          else
            (if x1 = (5 : Int32) then
              bn (ld 95 208 (1 : Int32)) fun v9 =>
              rt v9
            else
              (if x1 = (6 : Int32) then
                bn (ld 95 208 (0 : Int32)) fun v8 =>
                rt v8
              else
                (if x1 = (8 : Int32) then
                  bn (ld 95 208 (3 : Int32)) fun v7 =>
                  rt v7
                else
                  (if x1 = (9 : Int32) then
                    bn (ld 95 208 (2 : Int32)) fun v6 =>
                    rt v6
                  else
                    (if x1 = (10 : Int32) then
                      bn (ld 2 218 (0 : Int32)) fun v5 =>
                      rt v5
                    else
                      (if x1 = (11 : Int32) then
                        bn (rd 207 36) fun v4 =>
                        rt v4
                      else
                        (if x1 = (12 : Int32) then
                          bn (rd 207 38) fun v3 =>
                          rt v3
                        else
                          (if x1 = (13 : Int32) then
                            bn (rd 207 40) fun v2 =>
                            rt v2
                          else
                            (if x1 = (14 : Int32) then
                              bn (rd 207 3) fun v1 =>
                              rt v1
                            else
                              (if x1 = (7 : Int32) then
                                k_181 (0 : Int32) (0 : Int32)
                              else
                                rt (-1 : Int32))))))))))))))))) := rfl
theorem s_R_look_0 {d : Nat} (hcs : AllS L X d (cs_R_look F_R_isStruck)) (x1 : Int32) {o : Option Value × PH} {Q : (Int32) → MI → Prop} (q0 : ∀ v I, Q v I → o = (some (.int v), HH I)) (I : MI) (r : Int32) (I1 : MI) (h : F_R_look x1 I = some (r, I1)) (hq : Q r I1) : At L X (d + 1) 330 0 [(112, .ref 207), (0, .int x1), (0, dV), (0, dV)] [] I o := by
  refine wf_ok z_R_look hcs ?_ ?_ _ _ _ _ _ ⟨rfl, trivial, trivial, trivial, trivial⟩ trivial (unm_refl _ _) ((congrFun (e_s_R_look_0 (L := L) (X := X) F_R_isStruck K_R_look_181 x1) I).trans h)
  · intro pc ls st I2 h1 h2 h3 h
    rcases mC_ok h with ⟨hb, h⟩ | ⟨_, h⟩
    · have e := Nat.eq_of_beq_eq_true hb
      subst e
      obtain ⟨hst, h⟩ := mN_ok h
      subst hst
      obtain ⟨n1, h⟩ := gD_ok h
      obtain ⟨a2, n2, h⟩ := gI_ok h
      obtain ⟨a3, n3, h⟩ := gI_ok h
      refine at_leaf (ls2 := [(112, .ref 207), (0, dV), (0, .int a2), (0, .int a3)]) h3.1 ⟨Or.inr ⟨_, (h3.2 0 rfl).trans rfl⟩, Or.inl ⟨rfl, n1⟩, Or.inr n2, Or.inr n3, trivial⟩ ?_
      exact s_R_look_181 hcs a2 a3 q0 _ _ _ h hq
    cases h
  · intro v I2 _ h
    split at h
    · cases h; exact q0 _ _ hq
    · cases h
theorem w_R_look {d : Nat} (hcs : AllS L X d (cs_R_look F_R_isStruck)) : Snd L X (d + 1) 330 2 (W_R_look F_R_look) := by
  refine ⟨_, z_R_look, rfl, fun β args k I r hty hlen h => ?_⟩
  unfold W_R_look at h
  split at h
  · rename_i t0 a0 u1 a1
    obtain ⟨hb0, h⟩ := mB_ok h
    have e0 := Nat.eq_of_beq_eq_true hb0
    have g0 : okB 112 a0 = true := e0 ▸ hty.1
    have e20 := one_112 g0
    subst e20
    obtain ⟨v, I1, h1, h2⟩ := bn_some h
    refine ⟨gf_obj (c := 12) (by decide) g0, rfl, some (0, .int v), I1, trivial, ?_, h2⟩
    exact s_R_look_0 hcs a1  (Q := fun w I => w = v ∧ I = I1) (fun w I q => by obtain ⟨rfl, rfl⟩ := q; rfl) I v I1 h1 ⟨rfl, rfl⟩
  · cases h
theorem S_R_look {d : Nat} (hd : 2 ≤ d) : Snd L X d 330 2 (W_R_look F_R_look) := by
  obtain ⟨e, rfl⟩ : ∃ e, d = e + 1 := ⟨d - 1, by omega⟩
  exact w_R_look ⟨S_R_isStruck (by omega), trivial⟩
set_option maxRecDepth 100000 in
theorem z_R_choose : pT[315]? = some (q_R_choose, 3, 5, 1, 12) := rfl
def W_R_choose (F : Int32 → Int32 → M Int32) : CSem := fun _ args k => match args with
  | [(t0, .ref a0), (_, .int a1), (_, .int a2)] => mB (Nat.beq t0 112) <| bn (F a1 a2) fun v => k (some (0, .int v))
  | _ => fl
def cs_R_choose : List (Nat × Nat × CSem) := []
def B_R_choose_5 (x1 : Int32) (x2 : Int32) (y : Int32 × Int32) : M ((Int32 × Int32) ⊕ (Int32)) :=
  (if y.2 < x2 then
    dvI (y.2 + (1 : Int32)) <|
    rt (.inl (((y.1 * (x1 - y.2)) / (y.2 + (1 : Int32))), (y.2 + (1 : Int32))))
  else
    rt (.inr y.1))
set_option maxRecDepth 4000 in
theorem e_b_R_choose_5 (x1 : Int32) (x2 : Int32) (y : Int32 × Int32) : wf (β := (Int32 × Int32) ⊕ (Int32)) L X q_R_choose 1 cs_R_choose [3, 4] [5] (fun pc ls st => mC (Nat.beq pc 5) (mN st <| gD ls 0 <| gI ls 3 fun a3 => gI ls 4 fun a4 => rt (.inl (a3, a4))) (fl)) (fun v => match v with | some (_, .int x) => rt (.inr x) | _ => fl) 26 5 [(0, dV), (0, .int x1), (0, .int x2), (0, .int y.1), (0, .int y.2)] [] = ((if y.2 < x2 then
    dvI (y.2 + (1 : Int32)) <|
    rt (.inl (((y.1 * (x1 - y.2)) / (y.2 + (1 : Int32))), (y.2 + (1 : Int32))))
  else
    rt (.inr y.1))) := rfl
theorem b_R_choose_5 {d : Nat} (hcs : AllS L X d cs_R_choose) (x1 : Int32) (x2 : Int32) {o : Option Value × PH} {Q : ((Int32 × Int32) ⊕ (Int32)) → MI → Prop} (qb : ∀ y I, Q (.inl y) I → At L X (d + 1) 315 5 [(0, dV), (0, .int x1), (0, .int x2), (0, .int y.1), (0, .int y.2)] [] I o) (qr : ∀ v I, Q (.inr v) I → o = (some (.int v), HH I)) (y : Int32 × Int32) (I : MI) (r : (Int32 × Int32) ⊕ (Int32)) (I1 : MI) (h : B_R_choose_5 x1 x2 y I = some (r, I1)) (hq : Q r I1) : At L X (d + 1) 315 5 [(0, dV), (0, .int x1), (0, .int x2), (0, .int y.1), (0, .int y.2)] [] I o := by
  refine wf_ok z_R_choose hcs ?_ ?_ _ _ _ _ _ ⟨trivial, trivial, trivial, trivial, trivial, trivial⟩ trivial (unm_refl _ _) ((congrFun (e_b_R_choose_5 (L := L) (X := X) x1 x2 y) I).trans h)
  · intro pc ls st I2 h1 h2 h3 h
    rcases mC_ok h with ⟨hb, h⟩ | ⟨_, h⟩
    · have e := Nat.eq_of_beq_eq_true hb
      subst e
      obtain ⟨hst, h⟩ := mN_ok h
      subst hst
      obtain ⟨n0, h⟩ := gD_ok h
      obtain ⟨a3, n3, h⟩ := gI_ok h
      obtain ⟨a4, n4, h⟩ := gI_ok h
      refine at_leaf (ls2 := [(0, dV), (0, .int x1), (0, .int x2), (0, .int a3), (0, .int a4)]) h3.1 ⟨Or.inl ⟨rfl, n0⟩, Or.inr ⟨_, (h3.2 1 rfl).trans rfl⟩, Or.inr ⟨_, (h3.2 2 rfl).trans rfl⟩, Or.inr n3, Or.inr n4, trivial⟩ ?_
      cases h; exact qb _ _ hq
    cases h
  · intro v I2 _ h
    split at h
    · cases h; exact qr _ _ hq
    · cases h
def K_R_choose_5 (x1 : Int32) (x2 : Int32) (x3 : Int32) (x4 : Int32) : M (Int32) :=
  lp (B_R_choose_5 x1 x2) FU (x3, x4)
theorem s_R_choose_5 {d : Nat} (hcs : AllS L X d cs_R_choose) (x1 : Int32) (x2 : Int32) (x3 : Int32) (x4 : Int32) {o : Option Value × PH} {Q : (Int32) → MI → Prop} (q0 : ∀ v I, Q v I → o = (some (.int v), HH I)) (I : MI) (r : Int32) (I1 : MI) (h : K_R_choose_5 x1 x2 x3 x4 I = some (r, I1)) (hq : Q r I1) : At L X (d + 1) 315 5 [(0, dV), (0, .int x1), (0, .int x2), (0, .int x3), (0, .int x4)] [] I o := by
  unfold K_R_choose_5 at h
  have w0 := fun w => at_lp (body := B_R_choose_5 x1 x2) (P := (fun (y : Int32 × Int32) I => At L X (d + 1) 315 5 [(0, dV), (0, .int x1), (0, .int x2), (0, .int y.1), (0, .int y.2)] [] I o)) (Q := (fun (e : Int32) I => Q e I)) w FU (x3, x4) I r I1 h hq
  refine w0 ?_
  intro y I r I1 h hq
  exact b_R_choose_5 hcs x1 x2 (Q := SQ (fun (y : Int32 × Int32) I => At L X (d + 1) 315 5 [(0, dV), (0, .int x1), (0, .int x2), (0, .int y.1), (0, .int y.2)] [] I o) (fun (e : Int32) I => Q e I)) (fun _ _ w => w) q0 y I r I1 h hq
def F_R_choose (x1 : Int32) (x2 : Int32) : M (Int32) :=
  K_R_choose_5 x1 x2 (1 : Int32) (0 : Int32)
set_option maxRecDepth 4000 in
theorem e_s_R_choose_0 (k_5 : Int32 → Int32 → Int32 → Int32 → M (Int32)) (x1 : Int32) (x2 : Int32) : wf (β := Int32) L X q_R_choose 1 cs_R_choose [3, 4] [5] (fun pc ls st => mC (Nat.beq pc 5) (mN st <| gD ls 0 <| gI ls 3 fun a3 => gI ls 4 fun a4 => k_5 x1 x2 a3 a4) (fl)) (fun v => match v with | some (_, .int x) => rt x | _ => fl) 26 0 [(112, .ref 207), (0, .int x1), (0, .int x2), (0, dV), (0, dV)] [] = (k_5 x1 x2 (1 : Int32) (0 : Int32)) := rfl
theorem s_R_choose_0 {d : Nat} (hcs : AllS L X d cs_R_choose) (x1 : Int32) (x2 : Int32) {o : Option Value × PH} {Q : (Int32) → MI → Prop} (q0 : ∀ v I, Q v I → o = (some (.int v), HH I)) (I : MI) (r : Int32) (I1 : MI) (h : F_R_choose x1 x2 I = some (r, I1)) (hq : Q r I1) : At L X (d + 1) 315 0 [(112, .ref 207), (0, .int x1), (0, .int x2), (0, dV), (0, dV)] [] I o := by
  refine wf_ok z_R_choose hcs ?_ ?_ _ _ _ _ _ ⟨rfl, trivial, trivial, trivial, trivial, trivial⟩ trivial (unm_refl _ _) ((congrFun (e_s_R_choose_0 (L := L) (X := X) K_R_choose_5 x1 x2) I).trans h)
  · intro pc ls st I2 h1 h2 h3 h
    rcases mC_ok h with ⟨hb, h⟩ | ⟨_, h⟩
    · have e := Nat.eq_of_beq_eq_true hb
      subst e
      obtain ⟨hst, h⟩ := mN_ok h
      subst hst
      obtain ⟨n0, h⟩ := gD_ok h
      obtain ⟨a3, n3, h⟩ := gI_ok h
      obtain ⟨a4, n4, h⟩ := gI_ok h
      refine at_leaf (ls2 := [(0, dV), (0, .int x1), (0, .int x2), (0, .int a3), (0, .int a4)]) h3.1 ⟨Or.inl ⟨rfl, n0⟩, Or.inr ⟨_, (h3.2 1 rfl).trans rfl⟩, Or.inr ⟨_, (h3.2 2 rfl).trans rfl⟩, Or.inr n3, Or.inr n4, trivial⟩ ?_
      exact s_R_choose_5 hcs x1 x2 a3 a4 q0 _ _ _ h hq
    cases h
  · intro v I2 _ h
    split at h
    · cases h; exact q0 _ _ hq
    · cases h
theorem w_R_choose {d : Nat} (hcs : AllS L X d cs_R_choose) : Snd L X (d + 1) 315 3 (W_R_choose F_R_choose) := by
  refine ⟨_, z_R_choose, rfl, fun β args k I r hty hlen h => ?_⟩
  unfold W_R_choose at h
  split at h
  · rename_i t0 a0 u1 a1 u2 a2
    obtain ⟨hb0, h⟩ := mB_ok h
    have e0 := Nat.eq_of_beq_eq_true hb0
    have g0 : okB 112 a0 = true := e0 ▸ hty.1
    have e20 := one_112 g0
    subst e20
    obtain ⟨v, I1, h1, h2⟩ := bn_some h
    refine ⟨gf_obj (c := 12) (by decide) g0, rfl, some (0, .int v), I1, trivial, ?_, h2⟩
    exact s_R_choose_0 hcs a1 a2  (Q := fun w I => w = v ∧ I = I1) (fun w I q => by obtain ⟨rfl, rfl⟩ := q; rfl) I v I1 h1 ⟨rfl, rfl⟩
  · cases h
theorem S_R_choose {d : Nat} (hd : 1 ≤ d) : Snd L X d 315 3 (W_R_choose F_R_choose) := by
  obtain ⟨e, rfl⟩ : ∃ e, d = e + 1 := ⟨d - 1, by omega⟩
  exact w_R_choose trivial
set_option maxRecDepth 100000 in
theorem z_R_named : pT[314]? = some (q_R_named, 2, 6, 1, 12) := rfl
def W_R_named (F : Int32 → M Int32) : CSem := fun _ args k => match args with
  | [(t0, .ref a0), (_, .int a1)] => mB (Nat.beq t0 112) <| bn (F a1) fun v => k (some (0, .int v))
  | _ => fl
def cs_R_named (f_R_choose : Int32 → Int32 → M Int32) (f_R_isIn : Int32 → Int32 → Int32 → M Int32) : List (Nat × Nat × CSem) := [(315, 3, W_R_choose f_R_choose), (195, 4, W_R_isIn f_R_isIn)]
def B_R_named_19 (x1 : Int32) (y : Int32) : M ((Int32) ⊕ ((Unit))) :=
  (if y < (6 : Int32) then
    (if y = 0 then
      bn (sr 6 249 y (1 : Int32)) fun _ =>
      rt (.inl (y + (1 : Int32)))
    else
      bn (sr 6 249 y (0 : Int32)) fun _ =>
      rt (.inl (y + (1 : Int32))))
  else
    rt (.inr ()))
set_option maxRecDepth 4000 in
theorem e_b_R_named_19 (f_R_choose : Int32 → Int32 → M Int32) (f_R_isIn : Int32 → Int32 → Int32 → M Int32) (x1 : Int32) (y : Int32) : wf (β := (Int32) ⊕ ((Unit))) L X q_R_named 1 (cs_R_named f_R_choose f_R_isIn) [2] [19, 46, 48, 59, 89, 92, 100, 153, 159] (fun pc ls st => mC (Nat.beq pc 19) (mN st <| gI ls 2 fun a2 => gD ls 3 <| gD ls 4 <| gD ls 5 <| rt (.inl a2)) (mC (Nat.beq pc 46) (mN st <| gD ls 2 <| gD ls 3 <| gD ls 4 <| gD ls 5 <| rt (.inr ())) (fl))) (fun _ => fl) 100 19 [(112, .ref 207), (0, .int x1), (0, .int y), (0, dV), (0, dV), (0, dV)] [] = ((if y < (6 : Int32) then
    (if y = 0 then
      bn (sr 6 249 y (1 : Int32)) fun _ =>
      rt (.inl (y + (1 : Int32)))
    else
      bn (sr 6 249 y (0 : Int32)) fun _ =>
      rt (.inl (y + (1 : Int32))))
  else
    rt (.inr ()))) := rfl
theorem b_R_named_19 {d : Nat} (hcs : AllS L X d (cs_R_named F_R_choose F_R_isIn)) (x1 : Int32) {o : Option Value × PH} {Q : ((Int32) ⊕ ((Unit))) → MI → Prop} (qb : ∀ y I, Q (.inl y) I → At L X (d + 1) 314 19 [(112, .ref 207), (0, .int x1), (0, .int y), (0, dV), (0, dV), (0, dV)] [] I o) (qe46 : ∀ y I, Q (.inr y) I → At L X (d + 1) 314 46 [(112, .ref 207), (0, .int x1), (0, dV), (0, dV), (0, dV), (0, dV)] [] I o) (y : Int32) (I : MI) (r : (Int32) ⊕ ((Unit))) (I1 : MI) (h : B_R_named_19 x1 y I = some (r, I1)) (hq : Q r I1) : At L X (d + 1) 314 19 [(112, .ref 207), (0, .int x1), (0, .int y), (0, dV), (0, dV), (0, dV)] [] I o := by
  refine wf_ok z_R_named hcs ?_ ?_ _ _ _ _ _ ⟨rfl, trivial, trivial, trivial, trivial, trivial, trivial⟩ trivial (unm_refl _ _) ((congrFun (e_b_R_named_19 (L := L) (X := X) F_R_choose F_R_isIn x1 y) I).trans h)
  · intro pc ls st I2 h1 h2 h3 h
    rcases mC_ok h with ⟨hb, h⟩ | ⟨_, h⟩
    · have e := Nat.eq_of_beq_eq_true hb
      subst e
      obtain ⟨hst, h⟩ := mN_ok h
      subst hst
      obtain ⟨a2, n2, h⟩ := gI_ok h
      obtain ⟨n3, h⟩ := gD_ok h
      obtain ⟨n4, h⟩ := gD_ok h
      obtain ⟨n5, h⟩ := gD_ok h
      refine at_leaf (ls2 := [(112, .ref 207), (0, .int x1), (0, .int a2), (0, dV), (0, dV), (0, dV)]) h3.1 ⟨Or.inr ⟨_, (h3.2 0 rfl).trans rfl⟩, Or.inr ⟨_, (h3.2 1 rfl).trans rfl⟩, Or.inr n2, Or.inl ⟨rfl, n3⟩, Or.inl ⟨rfl, n4⟩, Or.inl ⟨rfl, n5⟩, trivial⟩ ?_
      cases h; exact qb _ _ hq
    rcases mC_ok h with ⟨hb, h⟩ | ⟨_, h⟩
    · have e := Nat.eq_of_beq_eq_true hb
      subst e
      obtain ⟨hst, h⟩ := mN_ok h
      subst hst
      obtain ⟨n2, h⟩ := gD_ok h
      obtain ⟨n3, h⟩ := gD_ok h
      obtain ⟨n4, h⟩ := gD_ok h
      obtain ⟨n5, h⟩ := gD_ok h
      refine at_leaf (ls2 := [(112, .ref 207), (0, .int x1), (0, dV), (0, dV), (0, dV), (0, dV)]) h3.1 ⟨Or.inr ⟨_, (h3.2 0 rfl).trans rfl⟩, Or.inr ⟨_, (h3.2 1 rfl).trans rfl⟩, Or.inl ⟨rfl, n2⟩, Or.inl ⟨rfl, n3⟩, Or.inl ⟨rfl, n4⟩, Or.inl ⟨rfl, n5⟩, trivial⟩ ?_
      cases h; exact qe46 _ _ hq
    cases h
  · intro v I2 _ h
    cases h
def B_R_named_59 (x1 : Int32) (x2 : Int32) (y : Int32 × Int32) : M ((Int32 × Int32) ⊕ ((Int32))) :=
  bn (rd 207 67) fun v1 =>
  (if y.2 < v1 then
    bn (ld 10 248 y.2) fun v2 =>
    (if v2 = x2 then
      rt (.inl ((y.1 + (1 : Int32)), (y.2 + (1 : Int32))))
    else
      rt (.inl (y.1, (y.2 + (1 : Int32)))))
  else
    rt (.inr y.1))
set_option maxRecDepth 4000 in
theorem e_b_R_named_59 (f_R_choose : Int32 → Int32 → M Int32) (f_R_isIn : Int32 → Int32 → Int32 → M Int32) (x1 : Int32) (x2 : Int32) (y : Int32 × Int32) : wf (β := (Int32 × Int32) ⊕ ((Int32))) L X q_R_named 1 (cs_R_named f_R_choose f_R_isIn) [3, 4] [19, 46, 48, 59, 89, 92, 100, 153, 159] (fun pc ls st => mC (Nat.beq pc 59) (mN st <| gI ls 3 fun a3 => gI ls 4 fun a4 => gD ls 5 <| rt (.inl (a3, a4))) (mC (Nat.beq pc 89) (mN st <| gI ls 3 fun a3 => gD ls 4 <| gD ls 5 <| rt (.inr a3)) (fl))) (fun _ => fl) 100 59 [(112, .ref 207), (0, .int x1), (0, .int x2), (0, .int y.1), (0, .int y.2), (0, dV)] [] = (bn (rd 207 67) fun v1 =>
  (if y.2 < v1 then
    bn (ld 10 248 y.2) fun v2 =>
    (if v2 = x2 then
      rt (.inl ((y.1 + (1 : Int32)), (y.2 + (1 : Int32))))
    else
      rt (.inl (y.1, (y.2 + (1 : Int32)))))
  else
    rt (.inr y.1))) := rfl
theorem b_R_named_59 {d : Nat} (hcs : AllS L X d (cs_R_named F_R_choose F_R_isIn)) (x1 : Int32) (x2 : Int32) {o : Option Value × PH} {Q : ((Int32 × Int32) ⊕ ((Int32))) → MI → Prop} (qb : ∀ y I, Q (.inl y) I → At L X (d + 1) 314 59 [(112, .ref 207), (0, .int x1), (0, .int x2), (0, .int y.1), (0, .int y.2), (0, dV)] [] I o) (qe89 : ∀ y I, Q (.inr y) I → At L X (d + 1) 314 89 [(112, .ref 207), (0, .int x1), (0, .int x2), (0, .int y), (0, dV), (0, dV)] [] I o) (y : Int32 × Int32) (I : MI) (r : (Int32 × Int32) ⊕ ((Int32))) (I1 : MI) (h : B_R_named_59 x1 x2 y I = some (r, I1)) (hq : Q r I1) : At L X (d + 1) 314 59 [(112, .ref 207), (0, .int x1), (0, .int x2), (0, .int y.1), (0, .int y.2), (0, dV)] [] I o := by
  refine wf_ok z_R_named hcs ?_ ?_ _ _ _ _ _ ⟨rfl, trivial, trivial, trivial, trivial, trivial, trivial⟩ trivial (unm_refl _ _) ((congrFun (e_b_R_named_59 (L := L) (X := X) F_R_choose F_R_isIn x1 x2 y) I).trans h)
  · intro pc ls st I2 h1 h2 h3 h
    rcases mC_ok h with ⟨hb, h⟩ | ⟨_, h⟩
    · have e := Nat.eq_of_beq_eq_true hb
      subst e
      obtain ⟨hst, h⟩ := mN_ok h
      subst hst
      obtain ⟨a3, n3, h⟩ := gI_ok h
      obtain ⟨a4, n4, h⟩ := gI_ok h
      obtain ⟨n5, h⟩ := gD_ok h
      refine at_leaf (ls2 := [(112, .ref 207), (0, .int x1), (0, .int x2), (0, .int a3), (0, .int a4), (0, dV)]) h3.1 ⟨Or.inr ⟨_, (h3.2 0 rfl).trans rfl⟩, Or.inr ⟨_, (h3.2 1 rfl).trans rfl⟩, Or.inr ⟨_, (h3.2 2 rfl).trans rfl⟩, Or.inr n3, Or.inr n4, Or.inl ⟨rfl, n5⟩, trivial⟩ ?_
      cases h; exact qb _ _ hq
    rcases mC_ok h with ⟨hb, h⟩ | ⟨_, h⟩
    · have e := Nat.eq_of_beq_eq_true hb
      subst e
      obtain ⟨hst, h⟩ := mN_ok h
      subst hst
      obtain ⟨a3, n3, h⟩ := gI_ok h
      obtain ⟨n4, h⟩ := gD_ok h
      obtain ⟨n5, h⟩ := gD_ok h
      refine at_leaf (ls2 := [(112, .ref 207), (0, .int x1), (0, .int x2), (0, .int a3), (0, dV), (0, dV)]) h3.1 ⟨Or.inr ⟨_, (h3.2 0 rfl).trans rfl⟩, Or.inr ⟨_, (h3.2 1 rfl).trans rfl⟩, Or.inr ⟨_, (h3.2 2 rfl).trans rfl⟩, Or.inr n3, Or.inl ⟨rfl, n4⟩, Or.inl ⟨rfl, n5⟩, trivial⟩ ?_
      cases h; exact qe89 _ _ hq
    cases h
  · intro v I2 _ h
    cases h
def B_R_named_100 (x1 : Int32) (x2 : Int32) (x3 : Int32) (x4 : Int32) (y : Int32) : M ((Int32) ⊕ ((Unit))) :=
  (if x3 < y then
    rt (.inr ())
  else
    (if x4 < y then
      rt (.inr ())
    else
      bn (ld 6 249 x4) fun v1 =>
      bn (F_R_choose x4 y) fun v2 =>
      bn (ld 6 249 (x4 - y)) fun v3 =>
      bn (sr 6 249 x4 (v1 + (v2 * v3))) fun _ =>
      rt (.inl (y + (1 : Int32)))))
set_option maxRecDepth 4000 in
theorem e_b_R_named_100 (f_R_choose : Int32 → Int32 → M Int32) (f_R_isIn : Int32 → Int32 → Int32 → M Int32) (x1 : Int32) (x2 : Int32) (x3 : Int32) (x4 : Int32) (y : Int32) : wf (β := (Int32) ⊕ ((Unit))) L X q_R_named 1 (cs_R_named f_R_choose f_R_isIn) [5] [19, 46, 48, 59, 89, 92, 100, 153, 159] (fun pc ls st => mC (Nat.beq pc 100) (mN st <| gI ls 5 fun a5 => rt (.inl a5)) (mC (Nat.beq pc 153) (mN st <| gD ls 5 <| rt (.inr ())) (fl))) (fun _ => fl) 100 100 [(112, .ref 207), (0, .int x1), (0, .int x2), (0, .int x3), (0, .int x4), (0, .int y)] [] = ((if x3 < y then
    rt (.inr ())
  else
    (if x4 < y then
      rt (.inr ())
    else
      bn (ld 6 249 x4) fun v1 =>
      bn (f_R_choose x4 y) fun v2 =>
      bn (ld 6 249 (x4 - y)) fun v3 =>
      bn (sr 6 249 x4 (v1 + (v2 * v3))) fun _ =>
      rt (.inl (y + (1 : Int32)))))) := rfl
theorem b_R_named_100 {d : Nat} (hcs : AllS L X d (cs_R_named F_R_choose F_R_isIn)) (x1 : Int32) (x2 : Int32) (x3 : Int32) (x4 : Int32) {o : Option Value × PH} {Q : ((Int32) ⊕ ((Unit))) → MI → Prop} (qb : ∀ y I, Q (.inl y) I → At L X (d + 1) 314 100 [(112, .ref 207), (0, .int x1), (0, .int x2), (0, .int x3), (0, .int x4), (0, .int y)] [] I o) (qe153 : ∀ y I, Q (.inr y) I → At L X (d + 1) 314 153 [(112, .ref 207), (0, .int x1), (0, .int x2), (0, .int x3), (0, .int x4), (0, dV)] [] I o) (y : Int32) (I : MI) (r : (Int32) ⊕ ((Unit))) (I1 : MI) (h : B_R_named_100 x1 x2 x3 x4 y I = some (r, I1)) (hq : Q r I1) : At L X (d + 1) 314 100 [(112, .ref 207), (0, .int x1), (0, .int x2), (0, .int x3), (0, .int x4), (0, .int y)] [] I o := by
  refine wf_ok z_R_named hcs ?_ ?_ _ _ _ _ _ ⟨rfl, trivial, trivial, trivial, trivial, trivial, trivial⟩ trivial (unm_refl _ _) ((congrFun (e_b_R_named_100 (L := L) (X := X) F_R_choose F_R_isIn x1 x2 x3 x4 y) I).trans h)
  · intro pc ls st I2 h1 h2 h3 h
    rcases mC_ok h with ⟨hb, h⟩ | ⟨_, h⟩
    · have e := Nat.eq_of_beq_eq_true hb
      subst e
      obtain ⟨hst, h⟩ := mN_ok h
      subst hst
      obtain ⟨a5, n5, h⟩ := gI_ok h
      refine at_leaf (ls2 := [(112, .ref 207), (0, .int x1), (0, .int x2), (0, .int x3), (0, .int x4), (0, .int a5)]) h3.1 ⟨Or.inr ⟨_, (h3.2 0 rfl).trans rfl⟩, Or.inr ⟨_, (h3.2 1 rfl).trans rfl⟩, Or.inr ⟨_, (h3.2 2 rfl).trans rfl⟩, Or.inr ⟨_, (h3.2 3 rfl).trans rfl⟩, Or.inr ⟨_, (h3.2 4 rfl).trans rfl⟩, Or.inr n5, trivial⟩ ?_
      cases h; exact qb _ _ hq
    rcases mC_ok h with ⟨hb, h⟩ | ⟨_, h⟩
    · have e := Nat.eq_of_beq_eq_true hb
      subst e
      obtain ⟨hst, h⟩ := mN_ok h
      subst hst
      obtain ⟨n5, h⟩ := gD_ok h
      refine at_leaf (ls2 := [(112, .ref 207), (0, .int x1), (0, .int x2), (0, .int x3), (0, .int x4), (0, dV)]) h3.1 ⟨Or.inr ⟨_, (h3.2 0 rfl).trans rfl⟩, Or.inr ⟨_, (h3.2 1 rfl).trans rfl⟩, Or.inr ⟨_, (h3.2 2 rfl).trans rfl⟩, Or.inr ⟨_, (h3.2 3 rfl).trans rfl⟩, Or.inr ⟨_, (h3.2 4 rfl).trans rfl⟩, Or.inl ⟨rfl, n5⟩, trivial⟩ ?_
      cases h; exact qe153 _ _ hq
    cases h
  · intro v I2 _ h
    cases h
def K_R_named_153 (x1 : Int32) (x2 : Int32) (x3 : Int32) (x4 : Int32) : M ((Int32) ⊕ ((Unit))) :=
  rt (.inl (x4 + (-1 : Int32)))
set_option maxRecDepth 4000 in
theorem e_s_R_named_153 (f_R_choose : Int32 → Int32 → M Int32) (f_R_isIn : Int32 → Int32 → Int32 → M Int32) (x1 : Int32) (x2 : Int32) (x3 : Int32) (x4 : Int32) : wf (β := (Int32) ⊕ ((Unit))) L X q_R_named 1 (cs_R_named f_R_choose f_R_isIn) [4] [19, 46, 48, 59, 89, 92, 100, 153, 159] (fun pc ls st => mC (Nat.beq pc 92) (mN st <| gI ls 4 fun a4 => gD ls 5 <| rt (.inl a4)) (fl)) (fun _ => fl) 100 153 [(112, .ref 207), (0, .int x1), (0, .int x2), (0, .int x3), (0, .int x4), (0, dV)] [] = (rt (.inl (x4 + (-1 : Int32)))) := rfl
theorem s_R_named_153 {d : Nat} (hcs : AllS L X d (cs_R_named F_R_choose F_R_isIn)) (x1 : Int32) (x2 : Int32) (x3 : Int32) (x4 : Int32) {o : Option Value × PH} {Q : ((Int32) ⊕ ((Unit))) → MI → Prop} (qb : ∀ y I, Q (.inl y) I → At L X (d + 1) 314 92 [(112, .ref 207), (0, .int x1), (0, .int x2), (0, .int x3), (0, .int y), (0, dV)] [] I o) (qe159 : ∀ y I, Q (.inr y) I → At L X (d + 1) 314 159 [(112, .ref 207), (0, .int x1), (0, .int x2), (0, dV), (0, dV), (0, dV)] [] I o) (I : MI) (r : (Int32) ⊕ ((Unit))) (I1 : MI) (h : K_R_named_153 x1 x2 x3 x4 I = some (r, I1)) (hq : Q r I1) : At L X (d + 1) 314 153 [(112, .ref 207), (0, .int x1), (0, .int x2), (0, .int x3), (0, .int x4), (0, dV)] [] I o := by
  refine wf_ok z_R_named hcs ?_ ?_ _ _ _ _ _ ⟨rfl, trivial, trivial, trivial, trivial, trivial, trivial⟩ trivial (unm_refl _ _) ((congrFun (e_s_R_named_153 (L := L) (X := X) F_R_choose F_R_isIn x1 x2 x3 x4) I).trans h)
  · intro pc ls st I2 h1 h2 h3 h
    rcases mC_ok h with ⟨hb, h⟩ | ⟨_, h⟩
    · have e := Nat.eq_of_beq_eq_true hb
      subst e
      obtain ⟨hst, h⟩ := mN_ok h
      subst hst
      obtain ⟨a4, n4, h⟩ := gI_ok h
      obtain ⟨n5, h⟩ := gD_ok h
      refine at_leaf (ls2 := [(112, .ref 207), (0, .int x1), (0, .int x2), (0, .int x3), (0, .int a4), (0, dV)]) h3.1 ⟨Or.inr ⟨_, (h3.2 0 rfl).trans rfl⟩, Or.inr ⟨_, (h3.2 1 rfl).trans rfl⟩, Or.inr ⟨_, (h3.2 2 rfl).trans rfl⟩, Or.inr ⟨_, (h3.2 3 rfl).trans rfl⟩, Or.inr n4, Or.inl ⟨rfl, n5⟩, trivial⟩ ?_
      cases h; exact qb _ _ hq
    cases h
  · intro v I2 _ h
    cases h
def K_R_named_100 (x1 : Int32) (x2 : Int32) (x3 : Int32) (x4 : Int32) (x5 : Int32) : M ((Int32) ⊕ ((Unit))) :=
  bn (lp (B_R_named_100 x1 x2 x3 x4) FU x5) fun e => K_R_named_153 x1 x2 x3 x4
theorem s_R_named_100 {d : Nat} (hcs : AllS L X d (cs_R_named F_R_choose F_R_isIn)) (x1 : Int32) (x2 : Int32) (x3 : Int32) (x4 : Int32) (x5 : Int32) {o : Option Value × PH} {Q : ((Int32) ⊕ ((Unit))) → MI → Prop} (qb : ∀ y I, Q (.inl y) I → At L X (d + 1) 314 92 [(112, .ref 207), (0, .int x1), (0, .int x2), (0, .int x3), (0, .int y), (0, dV)] [] I o) (qe159 : ∀ y I, Q (.inr y) I → At L X (d + 1) 314 159 [(112, .ref 207), (0, .int x1), (0, .int x2), (0, dV), (0, dV), (0, dV)] [] I o) (I : MI) (r : (Int32) ⊕ ((Unit))) (I1 : MI) (h : K_R_named_100 x1 x2 x3 x4 x5 I = some (r, I1)) (hq : Q r I1) : At L X (d + 1) 314 100 [(112, .ref 207), (0, .int x1), (0, .int x2), (0, .int x3), (0, .int x4), (0, .int x5)] [] I o := by
  unfold K_R_named_100 at h
  obtain ⟨e, I2, h1, h2⟩ := bn_some h
  have w0 := fun w => at_lp (body := B_R_named_100 x1 x2 x3 x4) (P := (fun (y : Int32) I => At L X (d + 1) 314 100 [(112, .ref 207), (0, .int x1), (0, .int x2), (0, .int x3), (0, .int x4), (0, .int y)] [] I o)) (Q := (fun (e : (Unit)) I => (K_R_named_153 x1 x2 x3 x4) I = some (r, I1))) w FU x5 I e I2 h1 h2
  refine w0 ?_
  intro y I r2 I3 h hq2
  exact b_R_named_100 hcs x1 x2 x3 x4 (Q := SQ (fun (y : Int32) I => At L X (d + 1) 314 100 [(112, .ref 207), (0, .int x1), (0, .int x2), (0, .int x3), (0, .int x4), (0, .int y)] [] I o) (fun (e : (Unit)) I => (K_R_named_153 x1 x2 x3 x4) I = some (r, I1))) (fun _ _ w => w) (fun y I w => s_R_named_153 hcs x1 x2 x3 x4 qb qe159 _ _ _ w hq) y I r2 I3 h hq2
def B_R_named_92 (x1 : Int32) (x2 : Int32) (x3 : Int32) (y : Int32) : M ((Int32) ⊕ ((Unit))) :=
  (if 0 < y then
    K_R_named_100 x1 x2 x3 y (1 : Int32)
  else
    rt (.inr ()))
set_option maxRecDepth 4000 in
theorem e_b_R_named_92 (f_R_choose : Int32 → Int32 → M Int32) (f_R_isIn : Int32 → Int32 → Int32 → M Int32) (k_100 : Int32 → Int32 → Int32 → Int32 → Int32 → M ((Int32) ⊕ ((Unit)))) (x1 : Int32) (x2 : Int32) (x3 : Int32) (y : Int32) : wf (β := (Int32) ⊕ ((Unit))) L X q_R_named 1 (cs_R_named f_R_choose f_R_isIn) [5] [19, 46, 48, 59, 89, 92, 100, 153, 159] (fun pc ls st => mC (Nat.beq pc 100) (mN st <| gI ls 5 fun a5 => k_100 x1 x2 x3 y a5) (mC (Nat.beq pc 159) (mN st <| gD ls 3 <| gD ls 4 <| gD ls 5 <| rt (.inr ())) (fl))) (fun _ => fl) 100 92 [(112, .ref 207), (0, .int x1), (0, .int x2), (0, .int x3), (0, .int y), (0, dV)] [] = ((if 0 < y then
    k_100 x1 x2 x3 y (1 : Int32)
  else
    rt (.inr ()))) := rfl
theorem b_R_named_92 {d : Nat} (hcs : AllS L X d (cs_R_named F_R_choose F_R_isIn)) (x1 : Int32) (x2 : Int32) (x3 : Int32) {o : Option Value × PH} {Q : ((Int32) ⊕ ((Unit))) → MI → Prop} (qb : ∀ y I, Q (.inl y) I → At L X (d + 1) 314 92 [(112, .ref 207), (0, .int x1), (0, .int x2), (0, .int x3), (0, .int y), (0, dV)] [] I o) (qe159 : ∀ y I, Q (.inr y) I → At L X (d + 1) 314 159 [(112, .ref 207), (0, .int x1), (0, .int x2), (0, dV), (0, dV), (0, dV)] [] I o) (y : Int32) (I : MI) (r : (Int32) ⊕ ((Unit))) (I1 : MI) (h : B_R_named_92 x1 x2 x3 y I = some (r, I1)) (hq : Q r I1) : At L X (d + 1) 314 92 [(112, .ref 207), (0, .int x1), (0, .int x2), (0, .int x3), (0, .int y), (0, dV)] [] I o := by
  refine wf_ok z_R_named hcs ?_ ?_ _ _ _ _ _ ⟨rfl, trivial, trivial, trivial, trivial, trivial, trivial⟩ trivial (unm_refl _ _) ((congrFun (e_b_R_named_92 (L := L) (X := X) F_R_choose F_R_isIn K_R_named_100 x1 x2 x3 y) I).trans h)
  · intro pc ls st I2 h1 h2 h3 h
    rcases mC_ok h with ⟨hb, h⟩ | ⟨_, h⟩
    · have e := Nat.eq_of_beq_eq_true hb
      subst e
      obtain ⟨hst, h⟩ := mN_ok h
      subst hst
      obtain ⟨a5, n5, h⟩ := gI_ok h
      refine at_leaf (ls2 := [(112, .ref 207), (0, .int x1), (0, .int x2), (0, .int x3), (0, .int y), (0, .int a5)]) h3.1 ⟨Or.inr ⟨_, (h3.2 0 rfl).trans rfl⟩, Or.inr ⟨_, (h3.2 1 rfl).trans rfl⟩, Or.inr ⟨_, (h3.2 2 rfl).trans rfl⟩, Or.inr ⟨_, (h3.2 3 rfl).trans rfl⟩, Or.inr ⟨_, (h3.2 4 rfl).trans rfl⟩, Or.inr n5, trivial⟩ ?_
      exact s_R_named_100 hcs x1 x2 x3 y a5 qb qe159 _ _ _ h hq
    rcases mC_ok h with ⟨hb, h⟩ | ⟨_, h⟩
    · have e := Nat.eq_of_beq_eq_true hb
      subst e
      obtain ⟨hst, h⟩ := mN_ok h
      subst hst
      obtain ⟨n3, h⟩ := gD_ok h
      obtain ⟨n4, h⟩ := gD_ok h
      obtain ⟨n5, h⟩ := gD_ok h
      refine at_leaf (ls2 := [(112, .ref 207), (0, .int x1), (0, .int x2), (0, dV), (0, dV), (0, dV)]) h3.1 ⟨Or.inr ⟨_, (h3.2 0 rfl).trans rfl⟩, Or.inr ⟨_, (h3.2 1 rfl).trans rfl⟩, Or.inr ⟨_, (h3.2 2 rfl).trans rfl⟩, Or.inl ⟨rfl, n3⟩, Or.inl ⟨rfl, n4⟩, Or.inl ⟨rfl, n5⟩, trivial⟩ ?_
      cases h; exact qe159 _ _ hq
    cases h
  · intro v I2 _ h
    cases h
def K_R_named_159 (x1 : Int32) (x2 : Int32) : M ((Int32) ⊕ (Int32)) :=
  rt (.inl (x2 + (1 : Int32)))
set_option maxRecDepth 4000 in
theorem e_s_R_named_159 (f_R_choose : Int32 → Int32 → M Int32) (f_R_isIn : Int32 → Int32 → Int32 → M Int32) (x1 : Int32) (x2 : Int32) : wf (β := (Int32) ⊕ (Int32)) L X q_R_named 1 (cs_R_named f_R_choose f_R_isIn) [2] [19, 46, 48, 59, 89, 92, 100, 153, 159] (fun pc ls st => mC (Nat.beq pc 48) (mN st <| gI ls 2 fun a2 => gD ls 3 <| gD ls 4 <| gD ls 5 <| rt (.inl a2)) (fl)) (fun v => match v with | some (_, .int x) => rt (.inr x) | _ => fl) 100 159 [(112, .ref 207), (0, .int x1), (0, .int x2), (0, dV), (0, dV), (0, dV)] [] = (rt (.inl (x2 + (1 : Int32)))) := rfl
theorem s_R_named_159 {d : Nat} (hcs : AllS L X d (cs_R_named F_R_choose F_R_isIn)) (x1 : Int32) (x2 : Int32) {o : Option Value × PH} {Q : ((Int32) ⊕ (Int32)) → MI → Prop} (qb : ∀ y I, Q (.inl y) I → At L X (d + 1) 314 48 [(112, .ref 207), (0, .int x1), (0, .int y), (0, dV), (0, dV), (0, dV)] [] I o) (qr : ∀ v I, Q (.inr v) I → o = (some (.int v), HH I)) (I : MI) (r : (Int32) ⊕ (Int32)) (I1 : MI) (h : K_R_named_159 x1 x2 I = some (r, I1)) (hq : Q r I1) : At L X (d + 1) 314 159 [(112, .ref 207), (0, .int x1), (0, .int x2), (0, dV), (0, dV), (0, dV)] [] I o := by
  refine wf_ok z_R_named hcs ?_ ?_ _ _ _ _ _ ⟨rfl, trivial, trivial, trivial, trivial, trivial, trivial⟩ trivial (unm_refl _ _) ((congrFun (e_s_R_named_159 (L := L) (X := X) F_R_choose F_R_isIn x1 x2) I).trans h)
  · intro pc ls st I2 h1 h2 h3 h
    rcases mC_ok h with ⟨hb, h⟩ | ⟨_, h⟩
    · have e := Nat.eq_of_beq_eq_true hb
      subst e
      obtain ⟨hst, h⟩ := mN_ok h
      subst hst
      obtain ⟨a2, n2, h⟩ := gI_ok h
      obtain ⟨n3, h⟩ := gD_ok h
      obtain ⟨n4, h⟩ := gD_ok h
      obtain ⟨n5, h⟩ := gD_ok h
      refine at_leaf (ls2 := [(112, .ref 207), (0, .int x1), (0, .int a2), (0, dV), (0, dV), (0, dV)]) h3.1 ⟨Or.inr ⟨_, (h3.2 0 rfl).trans rfl⟩, Or.inr ⟨_, (h3.2 1 rfl).trans rfl⟩, Or.inr n2, Or.inl ⟨rfl, n3⟩, Or.inl ⟨rfl, n4⟩, Or.inl ⟨rfl, n5⟩, trivial⟩ ?_
      cases h; exact qb _ _ hq
    cases h
  · intro v I2 _ h
    split at h
    · cases h; exact qr _ _ hq
    · cases h
def K_R_named_92 (x1 : Int32) (x2 : Int32) (x3 : Int32) (x4 : Int32) : M ((Int32) ⊕ (Int32)) :=
  bn (lp (B_R_named_92 x1 x2 x3) FU x4) fun e => K_R_named_159 x1 x2
theorem s_R_named_92 {d : Nat} (hcs : AllS L X d (cs_R_named F_R_choose F_R_isIn)) (x1 : Int32) (x2 : Int32) (x3 : Int32) (x4 : Int32) {o : Option Value × PH} {Q : ((Int32) ⊕ (Int32)) → MI → Prop} (qb : ∀ y I, Q (.inl y) I → At L X (d + 1) 314 48 [(112, .ref 207), (0, .int x1), (0, .int y), (0, dV), (0, dV), (0, dV)] [] I o) (qr : ∀ v I, Q (.inr v) I → o = (some (.int v), HH I)) (I : MI) (r : (Int32) ⊕ (Int32)) (I1 : MI) (h : K_R_named_92 x1 x2 x3 x4 I = some (r, I1)) (hq : Q r I1) : At L X (d + 1) 314 92 [(112, .ref 207), (0, .int x1), (0, .int x2), (0, .int x3), (0, .int x4), (0, dV)] [] I o := by
  unfold K_R_named_92 at h
  obtain ⟨e, I2, h1, h2⟩ := bn_some h
  have w0 := fun w => at_lp (body := B_R_named_92 x1 x2 x3) (P := (fun (y : Int32) I => At L X (d + 1) 314 92 [(112, .ref 207), (0, .int x1), (0, .int x2), (0, .int x3), (0, .int y), (0, dV)] [] I o)) (Q := (fun (e : (Unit)) I => (K_R_named_159 x1 x2) I = some (r, I1))) w FU x4 I e I2 h1 h2
  refine w0 ?_
  intro y I r2 I3 h hq2
  exact b_R_named_92 hcs x1 x2 x3 (Q := SQ (fun (y : Int32) I => At L X (d + 1) 314 92 [(112, .ref 207), (0, .int x1), (0, .int x2), (0, .int x3), (0, .int y), (0, dV)] [] I o) (fun (e : (Unit)) I => (K_R_named_159 x1 x2) I = some (r, I1))) (fun _ _ w => w) (fun y I w => s_R_named_159 hcs x1 x2 qb qr _ _ _ w hq) y I r2 I3 h hq2
def K_R_named_89 (x1 : Int32) (x2 : Int32) (x3 : Int32) : M ((Int32) ⊕ (Int32)) :=
  K_R_named_92 x1 x2 x3 (5 : Int32)
set_option maxRecDepth 4000 in
theorem e_s_R_named_89 (f_R_choose : Int32 → Int32 → M Int32) (f_R_isIn : Int32 → Int32 → Int32 → M Int32) (k_92 : Int32 → Int32 → Int32 → Int32 → M ((Int32) ⊕ (Int32))) (x1 : Int32) (x2 : Int32) (x3 : Int32) : wf (β := (Int32) ⊕ (Int32)) L X q_R_named 1 (cs_R_named f_R_choose f_R_isIn) [4] [19, 46, 48, 59, 89, 92, 100, 153, 159] (fun pc ls st => mC (Nat.beq pc 92) (mN st <| gI ls 4 fun a4 => gD ls 5 <| k_92 x1 x2 x3 a4) (fl)) (fun v => match v with | some (_, .int x) => rt (.inr x) | _ => fl) 100 89 [(112, .ref 207), (0, .int x1), (0, .int x2), (0, .int x3), (0, dV), (0, dV)] [] = (k_92 x1 x2 x3 (5 : Int32)) := rfl
theorem s_R_named_89 {d : Nat} (hcs : AllS L X d (cs_R_named F_R_choose F_R_isIn)) (x1 : Int32) (x2 : Int32) (x3 : Int32) {o : Option Value × PH} {Q : ((Int32) ⊕ (Int32)) → MI → Prop} (qb : ∀ y I, Q (.inl y) I → At L X (d + 1) 314 48 [(112, .ref 207), (0, .int x1), (0, .int y), (0, dV), (0, dV), (0, dV)] [] I o) (qr : ∀ v I, Q (.inr v) I → o = (some (.int v), HH I)) (I : MI) (r : (Int32) ⊕ (Int32)) (I1 : MI) (h : K_R_named_89 x1 x2 x3 I = some (r, I1)) (hq : Q r I1) : At L X (d + 1) 314 89 [(112, .ref 207), (0, .int x1), (0, .int x2), (0, .int x3), (0, dV), (0, dV)] [] I o := by
  refine wf_ok z_R_named hcs ?_ ?_ _ _ _ _ _ ⟨rfl, trivial, trivial, trivial, trivial, trivial, trivial⟩ trivial (unm_refl _ _) ((congrFun (e_s_R_named_89 (L := L) (X := X) F_R_choose F_R_isIn K_R_named_92 x1 x2 x3) I).trans h)
  · intro pc ls st I2 h1 h2 h3 h
    rcases mC_ok h with ⟨hb, h⟩ | ⟨_, h⟩
    · have e := Nat.eq_of_beq_eq_true hb
      subst e
      obtain ⟨hst, h⟩ := mN_ok h
      subst hst
      obtain ⟨a4, n4, h⟩ := gI_ok h
      obtain ⟨n5, h⟩ := gD_ok h
      refine at_leaf (ls2 := [(112, .ref 207), (0, .int x1), (0, .int x2), (0, .int x3), (0, .int a4), (0, dV)]) h3.1 ⟨Or.inr ⟨_, (h3.2 0 rfl).trans rfl⟩, Or.inr ⟨_, (h3.2 1 rfl).trans rfl⟩, Or.inr ⟨_, (h3.2 2 rfl).trans rfl⟩, Or.inr ⟨_, (h3.2 3 rfl).trans rfl⟩, Or.inr n4, Or.inl ⟨rfl, n5⟩, trivial⟩ ?_
      exact s_R_named_92 hcs x1 x2 x3 a4 qb qr _ _ _ h hq
    cases h
  · intro v I2 _ h
    split at h
    · cases h; exact qr _ _ hq
    · cases h
def K_R_named_59 (x1 : Int32) (x2 : Int32) (x3 : Int32) (x4 : Int32) : M ((Int32) ⊕ (Int32)) :=
  bn (lp (B_R_named_59 x1 x2) FU (x3, x4)) fun e => K_R_named_89 x1 x2 e
theorem s_R_named_59 {d : Nat} (hcs : AllS L X d (cs_R_named F_R_choose F_R_isIn)) (x1 : Int32) (x2 : Int32) (x3 : Int32) (x4 : Int32) {o : Option Value × PH} {Q : ((Int32) ⊕ (Int32)) → MI → Prop} (qb : ∀ y I, Q (.inl y) I → At L X (d + 1) 314 48 [(112, .ref 207), (0, .int x1), (0, .int y), (0, dV), (0, dV), (0, dV)] [] I o) (qr : ∀ v I, Q (.inr v) I → o = (some (.int v), HH I)) (I : MI) (r : (Int32) ⊕ (Int32)) (I1 : MI) (h : K_R_named_59 x1 x2 x3 x4 I = some (r, I1)) (hq : Q r I1) : At L X (d + 1) 314 59 [(112, .ref 207), (0, .int x1), (0, .int x2), (0, .int x3), (0, .int x4), (0, dV)] [] I o := by
  unfold K_R_named_59 at h
  obtain ⟨e, I2, h1, h2⟩ := bn_some h
  have w0 := fun w => at_lp (body := B_R_named_59 x1 x2) (P := (fun (y : Int32 × Int32) I => At L X (d + 1) 314 59 [(112, .ref 207), (0, .int x1), (0, .int x2), (0, .int y.1), (0, .int y.2), (0, dV)] [] I o)) (Q := (fun (e : (Int32)) I => (K_R_named_89 x1 x2 e) I = some (r, I1))) w FU (x3, x4) I e I2 h1 h2
  refine w0 ?_
  intro y I r2 I3 h hq2
  exact b_R_named_59 hcs x1 x2 (Q := SQ (fun (y : Int32 × Int32) I => At L X (d + 1) 314 59 [(112, .ref 207), (0, .int x1), (0, .int x2), (0, .int y.1), (0, .int y.2), (0, dV)] [] I o) (fun (e : (Int32)) I => (K_R_named_89 x1 x2 e) I = some (r, I1))) (fun _ _ w => w) (fun y I w => s_R_named_89 hcs x1 x2 y qb qr _ _ _ w hq) y I r2 I3 h hq2
def B_R_named_48 (x1 : Int32) (y : Int32) : M ((Int32) ⊕ (Int32)) :=
  (if y < (26 : Int32) then
    K_R_named_59 x1 y (0 : Int32) (0 : Int32)
  else
    bn (ld 6 249 x1) fun v1 =>
    rt (.inr v1))
set_option maxRecDepth 4000 in
theorem e_b_R_named_48 (f_R_choose : Int32 → Int32 → M Int32) (f_R_isIn : Int32 → Int32 → Int32 → M Int32) (k_59 : Int32 → Int32 → Int32 → Int32 → M ((Int32) ⊕ (Int32))) (x1 : Int32) (y : Int32) : wf (β := (Int32) ⊕ (Int32)) L X q_R_named 1 (cs_R_named f_R_choose f_R_isIn) [3, 4] [19, 46, 48, 59, 89, 92, 100, 153, 159] (fun pc ls st => mC (Nat.beq pc 59) (mN st <| gI ls 3 fun a3 => gI ls 4 fun a4 => gD ls 5 <| k_59 x1 y a3 a4) (fl)) (fun v => match v with | some (_, .int x) => rt (.inr x) | _ => fl) 100 48 [(112, .ref 207), (0, .int x1), (0, .int y), (0, dV), (0, dV), (0, dV)] [] = ((if y < (26 : Int32) then
    k_59 x1 y (0 : Int32) (0 : Int32)
  else
    bn (ld 6 249 x1) fun v1 =>
    rt (.inr v1))) := rfl
theorem b_R_named_48 {d : Nat} (hcs : AllS L X d (cs_R_named F_R_choose F_R_isIn)) (x1 : Int32) {o : Option Value × PH} {Q : ((Int32) ⊕ (Int32)) → MI → Prop} (qb : ∀ y I, Q (.inl y) I → At L X (d + 1) 314 48 [(112, .ref 207), (0, .int x1), (0, .int y), (0, dV), (0, dV), (0, dV)] [] I o) (qr : ∀ v I, Q (.inr v) I → o = (some (.int v), HH I)) (y : Int32) (I : MI) (r : (Int32) ⊕ (Int32)) (I1 : MI) (h : B_R_named_48 x1 y I = some (r, I1)) (hq : Q r I1) : At L X (d + 1) 314 48 [(112, .ref 207), (0, .int x1), (0, .int y), (0, dV), (0, dV), (0, dV)] [] I o := by
  refine wf_ok z_R_named hcs ?_ ?_ _ _ _ _ _ ⟨rfl, trivial, trivial, trivial, trivial, trivial, trivial⟩ trivial (unm_refl _ _) ((congrFun (e_b_R_named_48 (L := L) (X := X) F_R_choose F_R_isIn K_R_named_59 x1 y) I).trans h)
  · intro pc ls st I2 h1 h2 h3 h
    rcases mC_ok h with ⟨hb, h⟩ | ⟨_, h⟩
    · have e := Nat.eq_of_beq_eq_true hb
      subst e
      obtain ⟨hst, h⟩ := mN_ok h
      subst hst
      obtain ⟨a3, n3, h⟩ := gI_ok h
      obtain ⟨a4, n4, h⟩ := gI_ok h
      obtain ⟨n5, h⟩ := gD_ok h
      refine at_leaf (ls2 := [(112, .ref 207), (0, .int x1), (0, .int y), (0, .int a3), (0, .int a4), (0, dV)]) h3.1 ⟨Or.inr ⟨_, (h3.2 0 rfl).trans rfl⟩, Or.inr ⟨_, (h3.2 1 rfl).trans rfl⟩, Or.inr ⟨_, (h3.2 2 rfl).trans rfl⟩, Or.inr n3, Or.inr n4, Or.inl ⟨rfl, n5⟩, trivial⟩ ?_
      exact s_R_named_59 hcs x1 y a3 a4 qb qr _ _ _ h hq
    cases h
  · intro v I2 _ h
    split at h
    · cases h; exact qr _ _ hq
    · cases h
def K_R_named_48 (x1 : Int32) (x2 : Int32) : M (Int32) :=
  lp (B_R_named_48 x1) FU x2
theorem s_R_named_48 {d : Nat} (hcs : AllS L X d (cs_R_named F_R_choose F_R_isIn)) (x1 : Int32) (x2 : Int32) {o : Option Value × PH} {Q : (Int32) → MI → Prop} (q0 : ∀ v I, Q v I → o = (some (.int v), HH I)) (I : MI) (r : Int32) (I1 : MI) (h : K_R_named_48 x1 x2 I = some (r, I1)) (hq : Q r I1) : At L X (d + 1) 314 48 [(112, .ref 207), (0, .int x1), (0, .int x2), (0, dV), (0, dV), (0, dV)] [] I o := by
  unfold K_R_named_48 at h
  have w0 := fun w => at_lp (body := B_R_named_48 x1) (P := (fun (y : Int32) I => At L X (d + 1) 314 48 [(112, .ref 207), (0, .int x1), (0, .int y), (0, dV), (0, dV), (0, dV)] [] I o)) (Q := (fun (e : Int32) I => Q e I)) w FU x2 I r I1 h hq
  refine w0 ?_
  intro y I r I1 h hq
  exact b_R_named_48 hcs x1 (Q := SQ (fun (y : Int32) I => At L X (d + 1) 314 48 [(112, .ref 207), (0, .int x1), (0, .int y), (0, dV), (0, dV), (0, dV)] [] I o) (fun (e : Int32) I => Q e I)) (fun _ _ w => w) q0 y I r I1 h hq
def K_R_named_46 (x1 : Int32) : M (Int32) :=
  K_R_named_48 x1 (0 : Int32)
set_option maxRecDepth 4000 in
theorem e_s_R_named_46 (f_R_choose : Int32 → Int32 → M Int32) (f_R_isIn : Int32 → Int32 → Int32 → M Int32) (k_48 : Int32 → Int32 → M (Int32)) (x1 : Int32) : wf (β := Int32) L X q_R_named 1 (cs_R_named f_R_choose f_R_isIn) [2] [19, 46, 48, 59, 89, 92, 100, 153, 159] (fun pc ls st => mC (Nat.beq pc 48) (mN st <| gI ls 2 fun a2 => gD ls 3 <| gD ls 4 <| gD ls 5 <| k_48 x1 a2) (fl)) (fun v => match v with | some (_, .int x) => rt x | _ => fl) 100 46 [(112, .ref 207), (0, .int x1), (0, dV), (0, dV), (0, dV), (0, dV)] [] = (k_48 x1 (0 : Int32)) := rfl
theorem s_R_named_46 {d : Nat} (hcs : AllS L X d (cs_R_named F_R_choose F_R_isIn)) (x1 : Int32) {o : Option Value × PH} {Q : (Int32) → MI → Prop} (q0 : ∀ v I, Q v I → o = (some (.int v), HH I)) (I : MI) (r : Int32) (I1 : MI) (h : K_R_named_46 x1 I = some (r, I1)) (hq : Q r I1) : At L X (d + 1) 314 46 [(112, .ref 207), (0, .int x1), (0, dV), (0, dV), (0, dV), (0, dV)] [] I o := by
  refine wf_ok z_R_named hcs ?_ ?_ _ _ _ _ _ ⟨rfl, trivial, trivial, trivial, trivial, trivial, trivial⟩ trivial (unm_refl _ _) ((congrFun (e_s_R_named_46 (L := L) (X := X) F_R_choose F_R_isIn K_R_named_48 x1) I).trans h)
  · intro pc ls st I2 h1 h2 h3 h
    rcases mC_ok h with ⟨hb, h⟩ | ⟨_, h⟩
    · have e := Nat.eq_of_beq_eq_true hb
      subst e
      obtain ⟨hst, h⟩ := mN_ok h
      subst hst
      obtain ⟨a2, n2, h⟩ := gI_ok h
      obtain ⟨n3, h⟩ := gD_ok h
      obtain ⟨n4, h⟩ := gD_ok h
      obtain ⟨n5, h⟩ := gD_ok h
      refine at_leaf (ls2 := [(112, .ref 207), (0, .int x1), (0, .int a2), (0, dV), (0, dV), (0, dV)]) h3.1 ⟨Or.inr ⟨_, (h3.2 0 rfl).trans rfl⟩, Or.inr ⟨_, (h3.2 1 rfl).trans rfl⟩, Or.inr n2, Or.inl ⟨rfl, n3⟩, Or.inl ⟨rfl, n4⟩, Or.inl ⟨rfl, n5⟩, trivial⟩ ?_
      exact s_R_named_48 hcs x1 a2 q0 _ _ _ h hq
    cases h
  · intro v I2 _ h
    split at h
    · cases h; exact q0 _ _ hq
    · cases h
def K_R_named_19 (x1 : Int32) (x2 : Int32) : M (Int32) :=
  bn (lp (B_R_named_19 x1) FU x2) fun e => K_R_named_46 x1
theorem s_R_named_19 {d : Nat} (hcs : AllS L X d (cs_R_named F_R_choose F_R_isIn)) (x1 : Int32) (x2 : Int32) {o : Option Value × PH} {Q : (Int32) → MI → Prop} (q0 : ∀ v I, Q v I → o = (some (.int v), HH I)) (I : MI) (r : Int32) (I1 : MI) (h : K_R_named_19 x1 x2 I = some (r, I1)) (hq : Q r I1) : At L X (d + 1) 314 19 [(112, .ref 207), (0, .int x1), (0, .int x2), (0, dV), (0, dV), (0, dV)] [] I o := by
  unfold K_R_named_19 at h
  obtain ⟨e, I2, h1, h2⟩ := bn_some h
  have w0 := fun w => at_lp (body := B_R_named_19 x1) (P := (fun (y : Int32) I => At L X (d + 1) 314 19 [(112, .ref 207), (0, .int x1), (0, .int y), (0, dV), (0, dV), (0, dV)] [] I o)) (Q := (fun (e : (Unit)) I => (K_R_named_46 x1) I = some (r, I1))) w FU x2 I e I2 h1 h2
  refine w0 ?_
  intro y I r2 I3 h hq2
  exact b_R_named_19 hcs x1 (Q := SQ (fun (y : Int32) I => At L X (d + 1) 314 19 [(112, .ref 207), (0, .int x1), (0, .int y), (0, dV), (0, dV), (0, dV)] [] I o) (fun (e : (Unit)) I => (K_R_named_46 x1) I = some (r, I1))) (fun _ _ w => w) (fun y I w => s_R_named_46 hcs x1 q0 _ _ _ w hq) y I r2 I3 h hq2
def F_R_named (x1 : Int32) : M (Int32) :=
  bn (wr 207 0 (0 : Int32)) fun _ =>
  bn (F_R_isIn x1 (0 : Int32) (5 : Int32)) fun v1 =>
  (if v1 = 0 then
    rt (-1 : Int32)
  else
    K_R_named_19 x1 (0 : Int32))
set_option maxRecDepth 4000 in
theorem e_s_R_named_0 (f_R_choose : Int32 → Int32 → M Int32) (f_R_isIn : Int32 → Int32 → Int32 → M Int32) (k_19 : Int32 → Int32 → M (Int32)) (x1 : Int32) : wf (β := Int32) L X q_R_named 1 (cs_R_named f_R_choose f_R_isIn) [2] [19, 46, 48, 59, 89, 92, 100, 153, 159] (fun pc ls st => mC (Nat.beq pc 19) (mN st <| gI ls 2 fun a2 => gD ls 3 <| gD ls 4 <| gD ls 5 <| k_19 x1 a2) (fl)) (fun v => match v with | some (_, .int x) => rt x | _ => fl) 100 0 [(112, .ref 207), (0, .int x1), (0, dV), (0, dV), (0, dV), (0, dV)] [] = (bn (wr 207 0 (0 : Int32)) fun _ =>
  bn (f_R_isIn x1 (0 : Int32) (5 : Int32)) fun v1 =>
  (if v1 = 0 then
    rt (-1 : Int32)
  else
    k_19 x1 (0 : Int32))) := rfl
theorem s_R_named_0 {d : Nat} (hcs : AllS L X d (cs_R_named F_R_choose F_R_isIn)) (x1 : Int32) {o : Option Value × PH} {Q : (Int32) → MI → Prop} (q0 : ∀ v I, Q v I → o = (some (.int v), HH I)) (I : MI) (r : Int32) (I1 : MI) (h : F_R_named x1 I = some (r, I1)) (hq : Q r I1) : At L X (d + 1) 314 0 [(112, .ref 207), (0, .int x1), (0, dV), (0, dV), (0, dV), (0, dV)] [] I o := by
  refine wf_ok z_R_named hcs ?_ ?_ _ _ _ _ _ ⟨rfl, trivial, trivial, trivial, trivial, trivial, trivial⟩ trivial (unm_refl _ _) ((congrFun (e_s_R_named_0 (L := L) (X := X) F_R_choose F_R_isIn K_R_named_19 x1) I).trans h)
  · intro pc ls st I2 h1 h2 h3 h
    rcases mC_ok h with ⟨hb, h⟩ | ⟨_, h⟩
    · have e := Nat.eq_of_beq_eq_true hb
      subst e
      obtain ⟨hst, h⟩ := mN_ok h
      subst hst
      obtain ⟨a2, n2, h⟩ := gI_ok h
      obtain ⟨n3, h⟩ := gD_ok h
      obtain ⟨n4, h⟩ := gD_ok h
      obtain ⟨n5, h⟩ := gD_ok h
      refine at_leaf (ls2 := [(112, .ref 207), (0, .int x1), (0, .int a2), (0, dV), (0, dV), (0, dV)]) h3.1 ⟨Or.inr ⟨_, (h3.2 0 rfl).trans rfl⟩, Or.inr ⟨_, (h3.2 1 rfl).trans rfl⟩, Or.inr n2, Or.inl ⟨rfl, n3⟩, Or.inl ⟨rfl, n4⟩, Or.inl ⟨rfl, n5⟩, trivial⟩ ?_
      exact s_R_named_19 hcs x1 a2 q0 _ _ _ h hq
    cases h
  · intro v I2 _ h
    split at h
    · cases h; exact q0 _ _ hq
    · cases h
theorem w_R_named {d : Nat} (hcs : AllS L X d (cs_R_named F_R_choose F_R_isIn)) : Snd L X (d + 1) 314 2 (W_R_named F_R_named) := by
  refine ⟨_, z_R_named, rfl, fun β args k I r hty hlen h => ?_⟩
  unfold W_R_named at h
  split at h
  · rename_i t0 a0 u1 a1
    obtain ⟨hb0, h⟩ := mB_ok h
    have e0 := Nat.eq_of_beq_eq_true hb0
    have g0 : okB 112 a0 = true := e0 ▸ hty.1
    have e20 := one_112 g0
    subst e20
    obtain ⟨v, I1, h1, h2⟩ := bn_some h
    refine ⟨gf_obj (c := 12) (by decide) g0, rfl, some (0, .int v), I1, trivial, ?_, h2⟩
    exact s_R_named_0 hcs a1  (Q := fun w I => w = v ∧ I = I1) (fun w I q => by obtain ⟨rfl, rfl⟩ := q; rfl) I v I1 h1 ⟨rfl, rfl⟩
  · cases h
theorem S_R_named {d : Nat} (hd : 2 ≤ d) : Snd L X d 314 2 (W_R_named F_R_named) := by
  obtain ⟨e, rfl⟩ : ∃ e, d = e + 1 := ⟨d - 1, by omega⟩
  exact w_R_named ⟨S_R_choose (by omega), S_R_isIn (by omega), trivial⟩
set_option maxRecDepth 100000 in
theorem z_R_groupOf : pT[290]? = some (q_R_groupOf, 2, 5, 1, 12) := rfl
def W_R_groupOf (F : Int32 → M Int32) : CSem := fun _ args k => match args with
  | [(t0, .ref a0), (_, .int a1)] => mB (Nat.beq t0 112) <| bn (F a1) fun v => k (some (0, .int v))
  | _ => fl
def cs_R_groupOf (f_R_has : Int32 → Int32 → M Int32) : List (Nat × Nat × CSem) := [(286, 3, W_R_has f_R_has)]
def B_R_groupOf_15 (x3 : Int32) (y : Int32 × Int32) : M ((Int32 × Int32) ⊕ ((Int32))) :=
  (if y.2 < (10 : Int32) then
    bn (F_R_has y.1 y.2) fun v1 =>
    (if v1 = 0 then
      rt (.inl (y.1, (y.2 + (1 : Int32))))
    else
      bn (ld 10 235 y.2) fun v2 =>
      rt (.inl ((y.1 ||| v2), (y.2 + (1 : Int32)))))
  else
    rt (.inr y.1))
set_option maxRecDepth 4000 in
theorem e_b_R_groupOf_15 (f_R_has : Int32 → Int32 → M Int32) (x3 : Int32) (y : Int32 × Int32) : wf (β := (Int32 × Int32) ⊕ ((Int32))) L X q_R_groupOf 1 (cs_R_groupOf f_R_has) [2, 4] [6, 15, 48] (fun pc ls st => mC (Nat.beq pc 15) (mN st <| gD ls 1 <| gI ls 2 fun a2 => gI ls 4 fun a4 => rt (.inl (a2, a4))) (mC (Nat.beq pc 48) (mN st <| gD ls 1 <| gI ls 2 fun a2 => gD ls 4 <| rt (.inr a2)) (fl))) (fun _ => fl) 37 15 [(112, .ref 207), (0, dV), (0, .int y.1), (0, .int x3), (0, .int y.2)] [] = ((if y.2 < (10 : Int32) then
    bn (f_R_has y.1 y.2) fun v1 =>
    (if v1 = 0 then
      rt (.inl (y.1, (y.2 + (1 : Int32))))
    else
      bn (ld 10 235 y.2) fun v2 =>
      rt (.inl ((y.1 ||| v2), (y.2 + (1 : Int32)))))
  else
    rt (.inr y.1))) := rfl
theorem b_R_groupOf_15 {d : Nat} (hcs : AllS L X d (cs_R_groupOf F_R_has)) (x3 : Int32) {o : Option Value × PH} {Q : ((Int32 × Int32) ⊕ ((Int32))) → MI → Prop} (qb : ∀ y I, Q (.inl y) I → At L X (d + 1) 290 15 [(112, .ref 207), (0, dV), (0, .int y.1), (0, .int x3), (0, .int y.2)] [] I o) (qe48 : ∀ y I, Q (.inr y) I → At L X (d + 1) 290 48 [(112, .ref 207), (0, dV), (0, .int y), (0, .int x3), (0, dV)] [] I o) (y : Int32 × Int32) (I : MI) (r : (Int32 × Int32) ⊕ ((Int32))) (I1 : MI) (h : B_R_groupOf_15 x3 y I = some (r, I1)) (hq : Q r I1) : At L X (d + 1) 290 15 [(112, .ref 207), (0, dV), (0, .int y.1), (0, .int x3), (0, .int y.2)] [] I o := by
  refine wf_ok z_R_groupOf hcs ?_ ?_ _ _ _ _ _ ⟨rfl, trivial, trivial, trivial, trivial, trivial⟩ trivial (unm_refl _ _) ((congrFun (e_b_R_groupOf_15 (L := L) (X := X) F_R_has x3 y) I).trans h)
  · intro pc ls st I2 h1 h2 h3 h
    rcases mC_ok h with ⟨hb, h⟩ | ⟨_, h⟩
    · have e := Nat.eq_of_beq_eq_true hb
      subst e
      obtain ⟨hst, h⟩ := mN_ok h
      subst hst
      obtain ⟨n1, h⟩ := gD_ok h
      obtain ⟨a2, n2, h⟩ := gI_ok h
      obtain ⟨a4, n4, h⟩ := gI_ok h
      refine at_leaf (ls2 := [(112, .ref 207), (0, dV), (0, .int a2), (0, .int x3), (0, .int a4)]) h3.1 ⟨Or.inr ⟨_, (h3.2 0 rfl).trans rfl⟩, Or.inl ⟨rfl, n1⟩, Or.inr n2, Or.inr ⟨_, (h3.2 3 rfl).trans rfl⟩, Or.inr n4, trivial⟩ ?_
      cases h; exact qb _ _ hq
    rcases mC_ok h with ⟨hb, h⟩ | ⟨_, h⟩
    · have e := Nat.eq_of_beq_eq_true hb
      subst e
      obtain ⟨hst, h⟩ := mN_ok h
      subst hst
      obtain ⟨n1, h⟩ := gD_ok h
      obtain ⟨a2, n2, h⟩ := gI_ok h
      obtain ⟨n4, h⟩ := gD_ok h
      refine at_leaf (ls2 := [(112, .ref 207), (0, dV), (0, .int a2), (0, .int x3), (0, dV)]) h3.1 ⟨Or.inr ⟨_, (h3.2 0 rfl).trans rfl⟩, Or.inl ⟨rfl, n1⟩, Or.inr n2, Or.inr ⟨_, (h3.2 3 rfl).trans rfl⟩, Or.inl ⟨rfl, n4⟩, trivial⟩ ?_
      cases h; exact qe48 _ _ hq
    cases h
  · intro v I2 _ h
    cases h
def K_R_groupOf_48 (x2 : Int32) (x3 : Int32) : M ((Int32 × Int32) ⊕ (Int32)) :=
  rt (.inl (x2, (x3 + (1 : Int32))))
set_option maxRecDepth 4000 in
theorem e_s_R_groupOf_48 (f_R_has : Int32 → Int32 → M Int32) (x2 : Int32) (x3 : Int32) : wf (β := (Int32 × Int32) ⊕ (Int32)) L X q_R_groupOf 1 (cs_R_groupOf f_R_has) [3] [6, 15, 48] (fun pc ls st => mC (Nat.beq pc 6) (mN st <| gD ls 1 <| gI ls 3 fun a3 => gD ls 4 <| rt (.inl (x2, a3))) (fl)) (fun v => match v with | some (_, .int x) => rt (.inr x) | _ => fl) 37 48 [(112, .ref 207), (0, dV), (0, .int x2), (0, .int x3), (0, dV)] [] = (rt (.inl (x2, (x3 + (1 : Int32))))) := rfl
theorem s_R_groupOf_48 {d : Nat} (hcs : AllS L X d (cs_R_groupOf F_R_has)) (x2 : Int32) (x3 : Int32) {o : Option Value × PH} {Q : ((Int32 × Int32) ⊕ (Int32)) → MI → Prop} (qb : ∀ y I, Q (.inl y) I → At L X (d + 1) 290 6 [(112, .ref 207), (0, dV), (0, .int y.1), (0, .int y.2), (0, dV)] [] I o) (qr : ∀ v I, Q (.inr v) I → o = (some (.int v), HH I)) (I : MI) (r : (Int32 × Int32) ⊕ (Int32)) (I1 : MI) (h : K_R_groupOf_48 x2 x3 I = some (r, I1)) (hq : Q r I1) : At L X (d + 1) 290 48 [(112, .ref 207), (0, dV), (0, .int x2), (0, .int x3), (0, dV)] [] I o := by
  refine wf_ok z_R_groupOf hcs ?_ ?_ _ _ _ _ _ ⟨rfl, trivial, trivial, trivial, trivial, trivial⟩ trivial (unm_refl _ _) ((congrFun (e_s_R_groupOf_48 (L := L) (X := X) F_R_has x2 x3) I).trans h)
  · intro pc ls st I2 h1 h2 h3 h
    rcases mC_ok h with ⟨hb, h⟩ | ⟨_, h⟩
    · have e := Nat.eq_of_beq_eq_true hb
      subst e
      obtain ⟨hst, h⟩ := mN_ok h
      subst hst
      obtain ⟨n1, h⟩ := gD_ok h
      obtain ⟨a3, n3, h⟩ := gI_ok h
      obtain ⟨n4, h⟩ := gD_ok h
      refine at_leaf (ls2 := [(112, .ref 207), (0, dV), (0, .int x2), (0, .int a3), (0, dV)]) h3.1 ⟨Or.inr ⟨_, (h3.2 0 rfl).trans rfl⟩, Or.inl ⟨rfl, n1⟩, Or.inr ⟨_, (h3.2 2 rfl).trans rfl⟩, Or.inr n3, Or.inl ⟨rfl, n4⟩, trivial⟩ ?_
      cases h; exact qb _ _ hq
    cases h
  · intro v I2 _ h
    split at h
    · cases h; exact qr _ _ hq
    · cases h
def K_R_groupOf_15 (x2 : Int32) (x3 : Int32) (x4 : Int32) : M ((Int32 × Int32) ⊕ (Int32)) :=
  bn (lp (B_R_groupOf_15 x3) FU (x2, x4)) fun e => K_R_groupOf_48 e x3
theorem s_R_groupOf_15 {d : Nat} (hcs : AllS L X d (cs_R_groupOf F_R_has)) (x2 : Int32) (x3 : Int32) (x4 : Int32) {o : Option Value × PH} {Q : ((Int32 × Int32) ⊕ (Int32)) → MI → Prop} (qb : ∀ y I, Q (.inl y) I → At L X (d + 1) 290 6 [(112, .ref 207), (0, dV), (0, .int y.1), (0, .int y.2), (0, dV)] [] I o) (qr : ∀ v I, Q (.inr v) I → o = (some (.int v), HH I)) (I : MI) (r : (Int32 × Int32) ⊕ (Int32)) (I1 : MI) (h : K_R_groupOf_15 x2 x3 x4 I = some (r, I1)) (hq : Q r I1) : At L X (d + 1) 290 15 [(112, .ref 207), (0, dV), (0, .int x2), (0, .int x3), (0, .int x4)] [] I o := by
  unfold K_R_groupOf_15 at h
  obtain ⟨e, I2, h1, h2⟩ := bn_some h
  have w0 := fun w => at_lp (body := B_R_groupOf_15 x3) (P := (fun (y : Int32 × Int32) I => At L X (d + 1) 290 15 [(112, .ref 207), (0, dV), (0, .int y.1), (0, .int x3), (0, .int y.2)] [] I o)) (Q := (fun (e : (Int32)) I => (K_R_groupOf_48 e x3) I = some (r, I1))) w FU (x2, x4) I e I2 h1 h2
  refine w0 ?_
  intro y I r2 I3 h hq2
  exact b_R_groupOf_15 hcs x3 (Q := SQ (fun (y : Int32 × Int32) I => At L X (d + 1) 290 15 [(112, .ref 207), (0, dV), (0, .int y.1), (0, .int x3), (0, .int y.2)] [] I o) (fun (e : (Int32)) I => (K_R_groupOf_48 e x3) I = some (r, I1))) (fun _ _ w => w) (fun y I w => s_R_groupOf_48 hcs y x3 qb qr _ _ _ w hq) y I r2 I3 h hq2
def B_R_groupOf_6 (y : Int32 × Int32) : M ((Int32 × Int32) ⊕ (Int32)) :=
  (if y.2 < (10 : Int32) then
    K_R_groupOf_15 y.1 y.2 (0 : Int32)
  else
    rt (.inr y.1))
set_option maxRecDepth 4000 in
theorem e_b_R_groupOf_6 (f_R_has : Int32 → Int32 → M Int32) (k_15 : Int32 → Int32 → Int32 → M ((Int32 × Int32) ⊕ (Int32))) (y : Int32 × Int32) : wf (β := (Int32 × Int32) ⊕ (Int32)) L X q_R_groupOf 1 (cs_R_groupOf f_R_has) [4] [6, 15, 48] (fun pc ls st => mC (Nat.beq pc 15) (mN st <| gD ls 1 <| gI ls 4 fun a4 => k_15 y.1 y.2 a4) (fl)) (fun v => match v with | some (_, .int x) => rt (.inr x) | _ => fl) 37 6 [(112, .ref 207), (0, dV), (0, .int y.1), (0, .int y.2), (0, dV)] [] = ((if y.2 < (10 : Int32) then
    k_15 y.1 y.2 (0 : Int32)
  else
    rt (.inr y.1))) := rfl
theorem b_R_groupOf_6 {d : Nat} (hcs : AllS L X d (cs_R_groupOf F_R_has)) {o : Option Value × PH} {Q : ((Int32 × Int32) ⊕ (Int32)) → MI → Prop} (qb : ∀ y I, Q (.inl y) I → At L X (d + 1) 290 6 [(112, .ref 207), (0, dV), (0, .int y.1), (0, .int y.2), (0, dV)] [] I o) (qr : ∀ v I, Q (.inr v) I → o = (some (.int v), HH I)) (y : Int32 × Int32) (I : MI) (r : (Int32 × Int32) ⊕ (Int32)) (I1 : MI) (h : B_R_groupOf_6 y I = some (r, I1)) (hq : Q r I1) : At L X (d + 1) 290 6 [(112, .ref 207), (0, dV), (0, .int y.1), (0, .int y.2), (0, dV)] [] I o := by
  refine wf_ok z_R_groupOf hcs ?_ ?_ _ _ _ _ _ ⟨rfl, trivial, trivial, trivial, trivial, trivial⟩ trivial (unm_refl _ _) ((congrFun (e_b_R_groupOf_6 (L := L) (X := X) F_R_has K_R_groupOf_15 y) I).trans h)
  · intro pc ls st I2 h1 h2 h3 h
    rcases mC_ok h with ⟨hb, h⟩ | ⟨_, h⟩
    · have e := Nat.eq_of_beq_eq_true hb
      subst e
      obtain ⟨hst, h⟩ := mN_ok h
      subst hst
      obtain ⟨n1, h⟩ := gD_ok h
      obtain ⟨a4, n4, h⟩ := gI_ok h
      refine at_leaf (ls2 := [(112, .ref 207), (0, dV), (0, .int y.1), (0, .int y.2), (0, .int a4)]) h3.1 ⟨Or.inr ⟨_, (h3.2 0 rfl).trans rfl⟩, Or.inl ⟨rfl, n1⟩, Or.inr ⟨_, (h3.2 2 rfl).trans rfl⟩, Or.inr ⟨_, (h3.2 3 rfl).trans rfl⟩, Or.inr n4, trivial⟩ ?_
      exact s_R_groupOf_15 hcs y.1 y.2 a4 qb qr _ _ _ h hq
    cases h
  · intro v I2 _ h
    split at h
    · cases h; exact qr _ _ hq
    · cases h
def K_R_groupOf_6 (x2 : Int32) (x3 : Int32) : M (Int32) :=
  lp (B_R_groupOf_6) FU (x2, x3)
theorem s_R_groupOf_6 {d : Nat} (hcs : AllS L X d (cs_R_groupOf F_R_has)) (x2 : Int32) (x3 : Int32) {o : Option Value × PH} {Q : (Int32) → MI → Prop} (q0 : ∀ v I, Q v I → o = (some (.int v), HH I)) (I : MI) (r : Int32) (I1 : MI) (h : K_R_groupOf_6 x2 x3 I = some (r, I1)) (hq : Q r I1) : At L X (d + 1) 290 6 [(112, .ref 207), (0, dV), (0, .int x2), (0, .int x3), (0, dV)] [] I o := by
  unfold K_R_groupOf_6 at h
  have w0 := fun w => at_lp (body := B_R_groupOf_6) (P := (fun (y : Int32 × Int32) I => At L X (d + 1) 290 6 [(112, .ref 207), (0, dV), (0, .int y.1), (0, .int y.2), (0, dV)] [] I o)) (Q := (fun (e : Int32) I => Q e I)) w FU (x2, x3) I r I1 h hq
  refine w0 ?_
  intro y I r I1 h hq
  exact b_R_groupOf_6 hcs (Q := SQ (fun (y : Int32 × Int32) I => At L X (d + 1) 290 6 [(112, .ref 207), (0, dV), (0, .int y.1), (0, .int y.2), (0, dV)] [] I o) (fun (e : Int32) I => Q e I)) (fun _ _ w => w) q0 y I r I1 h hq
def F_R_groupOf (x1 : Int32) : M (Int32) :=
  K_R_groupOf_6 ((1 : Int32) <<< (x1 &&& 31)) (0 : Int32)
set_option maxRecDepth 4000 in
theorem e_s_R_groupOf_0 (f_R_has : Int32 → Int32 → M Int32) (k_6 : Int32 → Int32 → M (Int32)) (x1 : Int32) : wf (β := Int32) L X q_R_groupOf 1 (cs_R_groupOf f_R_has) [2, 3] [6, 15, 48] (fun pc ls st => mC (Nat.beq pc 6) (mN st <| gD ls 1 <| gI ls 2 fun a2 => gI ls 3 fun a3 => gD ls 4 <| k_6 a2 a3) (fl)) (fun v => match v with | some (_, .int x) => rt x | _ => fl) 37 0 [(112, .ref 207), (0, .int x1), (0, dV), (0, dV), (0, dV)] [] = (k_6 ((1 : Int32) <<< (x1 &&& 31)) (0 : Int32)) := rfl
theorem s_R_groupOf_0 {d : Nat} (hcs : AllS L X d (cs_R_groupOf F_R_has)) (x1 : Int32) {o : Option Value × PH} {Q : (Int32) → MI → Prop} (q0 : ∀ v I, Q v I → o = (some (.int v), HH I)) (I : MI) (r : Int32) (I1 : MI) (h : F_R_groupOf x1 I = some (r, I1)) (hq : Q r I1) : At L X (d + 1) 290 0 [(112, .ref 207), (0, .int x1), (0, dV), (0, dV), (0, dV)] [] I o := by
  refine wf_ok z_R_groupOf hcs ?_ ?_ _ _ _ _ _ ⟨rfl, trivial, trivial, trivial, trivial, trivial⟩ trivial (unm_refl _ _) ((congrFun (e_s_R_groupOf_0 (L := L) (X := X) F_R_has K_R_groupOf_6 x1) I).trans h)
  · intro pc ls st I2 h1 h2 h3 h
    rcases mC_ok h with ⟨hb, h⟩ | ⟨_, h⟩
    · have e := Nat.eq_of_beq_eq_true hb
      subst e
      obtain ⟨hst, h⟩ := mN_ok h
      subst hst
      obtain ⟨n1, h⟩ := gD_ok h
      obtain ⟨a2, n2, h⟩ := gI_ok h
      obtain ⟨a3, n3, h⟩ := gI_ok h
      obtain ⟨n4, h⟩ := gD_ok h
      refine at_leaf (ls2 := [(112, .ref 207), (0, dV), (0, .int a2), (0, .int a3), (0, dV)]) h3.1 ⟨Or.inr ⟨_, (h3.2 0 rfl).trans rfl⟩, Or.inl ⟨rfl, n1⟩, Or.inr n2, Or.inr n3, Or.inl ⟨rfl, n4⟩, trivial⟩ ?_
      exact s_R_groupOf_6 hcs a2 a3 q0 _ _ _ h hq
    cases h
  · intro v I2 _ h
    split at h
    · cases h; exact q0 _ _ hq
    · cases h
theorem w_R_groupOf {d : Nat} (hcs : AllS L X d (cs_R_groupOf F_R_has)) : Snd L X (d + 1) 290 2 (W_R_groupOf F_R_groupOf) := by
  refine ⟨_, z_R_groupOf, rfl, fun β args k I r hty hlen h => ?_⟩
  unfold W_R_groupOf at h
  split at h
  · rename_i t0 a0 u1 a1
    obtain ⟨hb0, h⟩ := mB_ok h
    have e0 := Nat.eq_of_beq_eq_true hb0
    have g0 : okB 112 a0 = true := e0 ▸ hty.1
    have e20 := one_112 g0
    subst e20
    obtain ⟨v, I1, h1, h2⟩ := bn_some h
    refine ⟨gf_obj (c := 12) (by decide) g0, rfl, some (0, .int v), I1, trivial, ?_, h2⟩
    exact s_R_groupOf_0 hcs a1  (Q := fun w I => w = v ∧ I = I1) (fun w I q => by obtain ⟨rfl, rfl⟩ := q; rfl) I v I1 h1 ⟨rfl, rfl⟩
  · cases h
theorem S_R_groupOf {d : Nat} (hd : 2 ≤ d) : Snd L X d 290 2 (W_R_groupOf F_R_groupOf) := by
  obtain ⟨e, rfl⟩ : ∃ e, d = e + 1 := ⟨d - 1, by omega⟩
  exact w_R_groupOf ⟨S_R_has (by omega), trivial⟩
end
