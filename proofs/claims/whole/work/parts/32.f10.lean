/-! methods (written by wip/tools/gen_f.py) -/
section
variable {L : Nat} {X : Nat → Int32}
set_option maxRecDepth 100000 in
theorem z_R_boot : pT[307]? = some (q_R_boot, 2, 2, 1, 12) := rfl
def W_R_boot (F : Int32 → M Int32) : CSem := fun _ args k => match args with
  | [(t0, .ref a0), (_, .int a1)] => mB (Nat.beq t0 112) <| bn (F a1) fun v => k (some (0, .int v))
  | _ => fl
def cs_R_boot (f_R_isIn : Int32 → Int32 → Int32 → M Int32) : List (Nat × Nat × CSem) := [(195, 4, W_R_isIn f_R_isIn)]
def F_R_boot (x1 : Int32) : M (Int32) :=
  bn (wr 207 0 (0 : Int32)) fun _ =>
  (if x1 = (-1 : Int32) then
    bn (wr 207 61 (0 : Int32)) fun _ =>
    rt (0 : Int32)
  else
    bn (F_R_isIn x1 (30 : Int32) (50 : Int32)) fun v1 =>
    (if v1 = 0 then
      rt (-1 : Int32)
    else
      bn (rd 207 61) fun v2 =>
      (if v2 = (8 : Int32) then
        rt (-1 : Int32)
      else
        bn (rd 207 61) fun v3 =>
        bn (sr 8 244 v3 x1) fun _ =>
        bn (rd 207 61) fun v4 =>
        bn (wr 207 61 (v4 + (1 : Int32))) fun _ =>
        bn (rd 207 61) fun v5 =>
        rt v5)))
set_option maxRecDepth 4000 in
theorem e_s_R_boot_0 (f_R_isIn : Int32 → Int32 → Int32 → M Int32) (x1 : Int32) : wf (β := Int32) L X q_R_boot 1 (cs_R_boot f_R_isIn) [] [] (fun _ _ _ => fl) (fun v => match v with | some (_, .int x) => rt x | _ => fl) 43 0 [(112, .ref 207), (0, .int x1)] [] = (bn (wr 207 0 (0 : Int32)) fun _ =>
  (if x1 = (-1 : Int32) then
    bn (wr 207 61 (0 : Int32)) fun _ =>
    rt (0 : Int32)
  else
    bn (f_R_isIn x1 (30 : Int32) (50 : Int32)) fun v1 =>
    (if v1 = 0 then
      rt (-1 : Int32)
    else
      bn (rd 207 61) fun v2 =>
      (if v2 = (8 : Int32) then
        rt (-1 : Int32)
      else
        bn (rd 207 61) fun v3 =>
        bn (sr 8 244 v3 x1) fun _ =>
        bn (rd 207 61) fun v4 =>
        bn (wr 207 61 (v4 + (1 : Int32))) fun _ =>
        bn (rd 207 61) fun v5 =>
        rt v5)))) := rfl
theorem s_R_boot_0 {d : Nat} (hcs : AllS L X d (cs_R_boot F_R_isIn)) (x1 : Int32) {o : Option Value × PH} {Q : (Int32) → MI → Prop} (q0 : ∀ v I, Q v I → o = (some (.int v), HH I)) (I : MI) (r : Int32) (I1 : MI) (h : F_R_boot x1 I = some (r, I1)) (hq : Q r I1) : At L X (d + 1) 307 0 [(112, .ref 207), (0, .int x1)] [] I o := by
  refine wf_ok z_R_boot hcs ?_ ?_ _ _ _ _ _ ⟨rfl, trivial, trivial⟩ trivial (unm_refl _ _) ((congrFun (e_s_R_boot_0 (L := L) (X := X) F_R_isIn x1) I).trans h)
  · intro pc ls st I2 h1 h2 h3 h
    cases h
  · intro v I2 _ h
    split at h
    · cases h; exact q0 _ _ hq
    · cases h
theorem w_R_boot {d : Nat} (hcs : AllS L X d (cs_R_boot F_R_isIn)) : Snd L X (d + 1) 307 2 (W_R_boot F_R_boot) := by
  refine ⟨_, z_R_boot, rfl, fun β args k I r hty hlen h => ?_⟩
  unfold W_R_boot at h
  split at h
  · rename_i t0 a0 u1 a1
    obtain ⟨hb0, h⟩ := mB_ok h
    have e0 := Nat.eq_of_beq_eq_true hb0
    have g0 : okB 112 a0 = true := e0 ▸ hty.1
    have e20 := one_112 g0
    subst e20
    obtain ⟨v, I1, h1, h2⟩ := bn_some h
    refine ⟨gf_obj (c := 12) (by decide) g0, rfl, some (0, .int v), I1, trivial, ?_, h2⟩
    exact s_R_boot_0 hcs a1  (Q := fun w I => w = v ∧ I = I1) (fun w I q => by obtain ⟨rfl, rfl⟩ := q; rfl) I v I1 h1 ⟨rfl, rfl⟩
  · cases h
theorem S_R_boot {d : Nat} (hd : 2 ≤ d) : Snd L X d 307 2 (W_R_boot F_R_boot) := by
  obtain ⟨e, rfl⟩ : ∃ e, d = e + 1 := ⟨d - 1, by omega⟩
  exact w_R_boot ⟨S_R_isIn (by omega), trivial⟩
set_option maxRecDepth 100000 in
theorem z_R_box : pT[313]? = some (q_R_box, 2, 2, 1, 12) := rfl
def W_R_box (F : Int32 → M Int32) : CSem := fun _ args k => match args with
  | [(t0, .ref a0), (_, .int a1)] => mB (Nat.beq t0 112) <| bn (F a1) fun v => k (some (0, .int v))
  | _ => fl
def cs_R_box (f_R_isIn : Int32 → Int32 → Int32 → M Int32) : List (Nat × Nat × CSem) := [(195, 4, W_R_isIn f_R_isIn)]
def F_R_box (x1 : Int32) : M (Int32) :=
  bn (wr 207 0 (0 : Int32)) fun _ =>
  (if x1 = (-1 : Int32) then
    bn (wr 207 67 (0 : Int32)) fun _ =>
    rt (0 : Int32)
  else
    bn (F_R_isIn x1 (0 : Int32) (25 : Int32)) fun v1 =>
    (if v1 = 0 then
      rt (-1 : Int32)
    else
      bn (rd 207 67) fun v2 =>
      (if v2 = (10 : Int32) then
        rt (-1 : Int32)
      else
        bn (rd 207 67) fun v3 =>
        bn (sr 10 248 v3 x1) fun _ =>
        bn (rd 207 67) fun v4 =>
        bn (wr 207 67 (v4 + (1 : Int32))) fun _ =>
        bn (rd 207 67) fun v5 =>
        rt v5)))
set_option maxRecDepth 4000 in
theorem e_s_R_box_0 (f_R_isIn : Int32 → Int32 → Int32 → M Int32) (x1 : Int32) : wf (β := Int32) L X q_R_box 1 (cs_R_box f_R_isIn) [] [] (fun _ _ _ => fl) (fun v => match v with | some (_, .int x) => rt x | _ => fl) 43 0 [(112, .ref 207), (0, .int x1)] [] = (bn (wr 207 0 (0 : Int32)) fun _ =>
  (if x1 = (-1 : Int32) then
    bn (wr 207 67 (0 : Int32)) fun _ =>
    rt (0 : Int32)
  else
    bn (f_R_isIn x1 (0 : Int32) (25 : Int32)) fun v1 =>
    (if v1 = 0 then
      rt (-1 : Int32)
    else
      bn (rd 207 67) fun v2 =>
      (if v2 = (10 : Int32) then
        rt (-1 : Int32)
      else
        bn (rd 207 67) fun v3 =>
        bn (sr 10 248 v3 x1) fun _ =>
        bn (rd 207 67) fun v4 =>
        bn (wr 207 67 (v4 + (1 : Int32))) fun _ =>
        bn (rd 207 67) fun v5 =>
        rt v5)))) := rfl
theorem s_R_box_0 {d : Nat} (hcs : AllS L X d (cs_R_box F_R_isIn)) (x1 : Int32) {o : Option Value × PH} {Q : (Int32) → MI → Prop} (q0 : ∀ v I, Q v I → o = (some (.int v), HH I)) (I : MI) (r : Int32) (I1 : MI) (h : F_R_box x1 I = some (r, I1)) (hq : Q r I1) : At L X (d + 1) 313 0 [(112, .ref 207), (0, .int x1)] [] I o := by
  refine wf_ok z_R_box hcs ?_ ?_ _ _ _ _ _ ⟨rfl, trivial, trivial⟩ trivial (unm_refl _ _) ((congrFun (e_s_R_box_0 (L := L) (X := X) F_R_isIn x1) I).trans h)
  · intro pc ls st I2 h1 h2 h3 h
    cases h
  · intro v I2 _ h
    split at h
    · cases h; exact q0 _ _ hq
    · cases h
theorem w_R_box {d : Nat} (hcs : AllS L X d (cs_R_box F_R_isIn)) : Snd L X (d + 1) 313 2 (W_R_box F_R_box) := by
  refine ⟨_, z_R_box, rfl, fun β args k I r hty hlen h => ?_⟩
  unfold W_R_box at h
  split at h
  · rename_i t0 a0 u1 a1
    obtain ⟨hb0, h⟩ := mB_ok h
    have e0 := Nat.eq_of_beq_eq_true hb0
    have g0 : okB 112 a0 = true := e0 ▸ hty.1
    have e20 := one_112 g0
    subst e20
    obtain ⟨v, I1, h1, h2⟩ := bn_some h
    refine ⟨gf_obj (c := 12) (by decide) g0, rfl, some (0, .int v), I1, trivial, ?_, h2⟩
    exact s_R_box_0 hcs a1  (Q := fun w I => w = v ∧ I = I1) (fun w I q => by obtain ⟨rfl, rfl⟩ := q; rfl) I v I1 h1 ⟨rfl, rfl⟩
  · cases h
theorem S_R_box {d : Nat} (hd : 2 ≤ d) : Snd L X d 313 2 (W_R_box F_R_box) := by
  obtain ⟨e, rfl⟩ : ∃ e, d = e + 1 := ⟨d - 1, by omega⟩
  exact w_R_box ⟨S_R_isIn (by omega), trivial⟩
set_option maxRecDepth 100000 in
theorem z_R_end : pT[204]? = some (q_R_end, 2, 2, 2, 12) := rfl
def W_R_end (F : Int32 → M Int32) : CSem := fun _ args k => match args with
  | [(t0, .ref a0), (_, .int a1)] => mB (Nat.beq t0 112) <| bn (F a1) fun v => k (some (0, .int v))
  | _ => fl
def cs_R_end (f_R_isIn : Int32 → Int32 → Int32 → M Int32) : List (Nat × Nat × CSem) := [(195, 4, W_R_isIn f_R_isIn)]
def F_R_end (x1 : Int32) : M (Int32) :=
  bn (wr 207 0 (0 : Int32)) fun _ =>
  bn (rd 207 14) fun v1 =>
  bn (F_R_isIn x1 (0 : Int32) v1) fun v2 =>
  (if v2 = 0 then
    bn (gdZ (0 : Int32)) fun _ => rt (0 : Int32)
  else
    bn (wr 207 14 x1) fun _ =>
    bn (gdZ (1 : Int32)) fun _ => rt (1 : Int32))
set_option maxRecDepth 4000 in
theorem e_s_R_end_0 (f_R_isIn : Int32 → Int32 → Int32 → M Int32) (x1 : Int32) : wf (β := Int32) L X q_R_end 2 (cs_R_end f_R_isIn) [] [] (fun _ _ _ => fl) (fun v => match v with | some (_, .int x) => rt x | _ => fl) 22 0 [(112, .ref 207), (0, .int x1)] [] = (bn (wr 207 0 (0 : Int32)) fun _ =>
  bn (rd 207 14) fun v1 =>
  bn (f_R_isIn x1 (0 : Int32) v1) fun v2 =>
  (if v2 = 0 then
    bn (gdZ (0 : Int32)) fun _ => rt (0 : Int32)
  else
    bn (wr 207 14 x1) fun _ =>
    bn (gdZ (1 : Int32)) fun _ => rt (1 : Int32))) := rfl
theorem s_R_end_0 {d : Nat} (hcs : AllS L X d (cs_R_end F_R_isIn)) (x1 : Int32) {o : Option Value × PH} {Q : (Int32) → MI → Prop} (q0 : ∀ v I, Q v I → o = (some (.int v), HH I)) (I : MI) (r : Int32) (I1 : MI) (h : F_R_end x1 I = some (r, I1)) (hq : Q r I1) : At L X (d + 1) 204 0 [(112, .ref 207), (0, .int x1)] [] I o := by
  refine wf_ok z_R_end hcs ?_ ?_ _ _ _ _ _ ⟨rfl, trivial, trivial⟩ trivial (unm_refl _ _) ((congrFun (e_s_R_end_0 (L := L) (X := X) F_R_isIn x1) I).trans h)
  · intro pc ls st I2 h1 h2 h3 h
    cases h
  · intro v I2 _ h
    split at h
    · cases h; exact q0 _ _ hq
    · cases h
theorem w_R_end {d : Nat} (hcs : AllS L X d (cs_R_end F_R_isIn)) : Snd L X (d + 1) 204 2 (W_R_end F_R_end) := by
  refine ⟨_, z_R_end, rfl, fun β args k I r hty hlen h => ?_⟩
  unfold W_R_end at h
  split at h
  · rename_i t0 a0 u1 a1
    obtain ⟨hb0, h⟩ := mB_ok h
    have e0 := Nat.eq_of_beq_eq_true hb0
    have g0 : okB 112 a0 = true := e0 ▸ hty.1
    have e20 := one_112 g0
    subst e20
    obtain ⟨v, I1, h1, h2⟩ := bn_some h
    refine ⟨gf_obj (c := 12) (by decide) g0, rfl, some (0, .int v), I1, trivial, ?_, h2⟩
    exact s_R_end_0 hcs a1  (Q := fun w I => w = v ∧ I = I1) (fun w I q => by obtain ⟨rfl, rfl⟩ := q; rfl) I v I1 h1 ⟨rfl, rfl⟩
  · cases h
theorem S_R_end {d : Nat} (hd : 2 ≤ d) : Snd L X d 204 2 (W_R_end F_R_end) := by
  obtain ⟨e, rfl⟩ : ∃ e, d = e + 1 := ⟨d - 1, by omega⟩
  exact w_R_end ⟨S_R_isIn (by omega), trivial⟩
set_option maxRecDepth 100000 in
theorem z_R_fault : pT[241]? = some (q_R_fault, 2, 2, 1, 12) := rfl
def W_R_fault (F : Int32 → M Int32) : CSem := fun _ args k => match args with
  | [(t0, .ref a0), (_, .int a1)] => mB (Nat.beq t0 112) <| bn (F a1) fun v => k (some (0, .int v))
  | _ => fl
def cs_R_fault : List (Nat × Nat × CSem) := []
def F_R_fault (x1 : Int32) : M (Int32) :=
  bn (wr 207 0 (0 : Int32)) fun _ =>
  (if x1 = 0 then
    bn (rd 207 34) fun v2 =>
    rt v2
  else
    (if x1 = (1 : Int32) then
      bn (rd 207 35) fun v1 =>
      rt v1
    else
      rt (-1 : Int32)))
set_option maxRecDepth 4000 in
theorem e_s_R_fault_0 (x1 : Int32) : wf (β := Int32) L X q_R_fault 1 cs_R_fault [] [] (fun _ _ _ => fl) (fun v => match v with | some (_, .int x) => rt x | _ => fl) 21 0 [(112, .ref 207), (0, .int x1)] [] = (bn (wr 207 0 (0 : Int32)) fun _ =>
  (if x1 = 0 then
    bn (rd 207 34) fun v2 =>
    rt v2
  else
    (if x1 = (1 : Int32) then
      bn (rd 207 35) fun v1 =>
      rt v1
    else
      rt (-1 : Int32)))) := rfl
theorem s_R_fault_0 {d : Nat} (hcs : AllS L X d cs_R_fault) (x1 : Int32) {o : Option Value × PH} {Q : (Int32) → MI → Prop} (q0 : ∀ v I, Q v I → o = (some (.int v), HH I)) (I : MI) (r : Int32) (I1 : MI) (h : F_R_fault x1 I = some (r, I1)) (hq : Q r I1) : At L X (d + 1) 241 0 [(112, .ref 207), (0, .int x1)] [] I o := by
  refine wf_ok z_R_fault hcs ?_ ?_ _ _ _ _ _ ⟨rfl, trivial, trivial⟩ trivial (unm_refl _ _) ((congrFun (e_s_R_fault_0 (L := L) (X := X) x1) I).trans h)
  · intro pc ls st I2 h1 h2 h3 h
    cases h
  · intro v I2 _ h
    split at h
    · cases h; exact q0 _ _ hq
    · cases h
theorem w_R_fault {d : Nat} (hcs : AllS L X d cs_R_fault) : Snd L X (d + 1) 241 2 (W_R_fault F_R_fault) := by
  refine ⟨_, z_R_fault, rfl, fun β args k I r hty hlen h => ?_⟩
  unfold W_R_fault at h
  split at h
  · rename_i t0 a0 u1 a1
    obtain ⟨hb0, h⟩ := mB_ok h
    have e0 := Nat.eq_of_beq_eq_true hb0
    have g0 : okB 112 a0 = true := e0 ▸ hty.1
    have e20 := one_112 g0
    subst e20
    obtain ⟨v, I1, h1, h2⟩ := bn_some h
    refine ⟨gf_obj (c := 12) (by decide) g0, rfl, some (0, .int v), I1, trivial, ?_, h2⟩
    exact s_R_fault_0 hcs a1  (Q := fun w I => w = v ∧ I = I1) (fun w I q => by obtain ⟨rfl, rfl⟩ := q; rfl) I v I1 h1 ⟨rfl, rfl⟩
  · cases h
theorem S_R_fault {d : Nat} (hd : 1 ≤ d) : Snd L X d 241 2 (W_R_fault F_R_fault) := by
  obtain ⟨e, rfl⟩ : ∃ e, d = e + 1 := ⟨d - 1, by omega⟩
  exact w_R_fault trivial
set_option maxRecDepth 100000 in
theorem z_R_types : pT[203]? = some (q_R_types, 2, 3, 0, 12) := rfl
def W_R_types (F : Int32 → M Unit) : CSem := fun _ args k => match args with
  | [(t0, .ref a0), (_, .int a1)] => mB (Nat.beq t0 112) <| bn (F a1) fun _ => k none
  | _ => fl
def cs_R_types : List (Nat × Nat × CSem) := []
def B_R_types_3 (x1 : Int32) (y : Int32) : M ((Int32) ⊕ (Unit)) :=
  (if y < 0 then
    rt (.inr ())
  else
    bn (rd 207 14) fun v1 =>
    bn (sr 400 216 v1 ((x1 >>> (y &&& 31)) &&& (255 : Int32))) fun _ =>
    bn (rd 207 14) fun v2 =>
    bn (wr 207 14 (v2 + (1 : Int32))) fun _ =>
    rt (.inl (y + (-8 : Int32))))
set_option maxRecDepth 4000 in
theorem e_b_R_types_3 (x1 : Int32) (y : Int32) : wf (β := (Int32) ⊕ (Unit)) L X q_R_types 0 cs_R_types [2] [3] (fun pc ls st => mC (Nat.beq pc 3) (mN st <| gI ls 2 fun a2 => rt (.inl a2)) (fl)) (fun v => match v with | none => rt (.inr ()) | _ => fl) 28 3 [(112, .ref 207), (0, .int x1), (0, .int y)] [] = ((if y < 0 then
    rt (.inr ())
  else
    bn (rd 207 14) fun v1 =>
    bn (sr 400 216 v1 ((x1 >>> (y &&& 31)) &&& (255 : Int32))) fun _ =>
    bn (rd 207 14) fun v2 =>
    bn (wr 207 14 (v2 + (1 : Int32))) fun _ =>
    rt (.inl (y + (-8 : Int32))))) := rfl
theorem b_R_types_3 {d : Nat} (hcs : AllS L X d cs_R_types) (x1 : Int32) {o : Option Value × PH} {Q : ((Int32) ⊕ (Unit)) → MI → Prop} (qb : ∀ y I, Q (.inl y) I → At L X (d + 1) 203 3 [(112, .ref 207), (0, .int x1), (0, .int y)] [] I o) (qr : ∀ v I, Q (.inr v) I → o = (none, HH I)) (y : Int32) (I : MI) (r : (Int32) ⊕ (Unit)) (I1 : MI) (h : B_R_types_3 x1 y I = some (r, I1)) (hq : Q r I1) : At L X (d + 1) 203 3 [(112, .ref 207), (0, .int x1), (0, .int y)] [] I o := by
  refine wf_ok z_R_types hcs ?_ ?_ _ _ _ _ _ ⟨rfl, trivial, trivial, trivial⟩ trivial (unm_refl _ _) ((congrFun (e_b_R_types_3 (L := L) (X := X) x1 y) I).trans h)
  · intro pc ls st I2 h1 h2 h3 h
    rcases mC_ok h with ⟨hb, h⟩ | ⟨_, h⟩
    · have e := Nat.eq_of_beq_eq_true hb
      subst e
      obtain ⟨hst, h⟩ := mN_ok h
      subst hst
      obtain ⟨a2, n2, h⟩ := gI_ok h
      refine at_leaf (ls2 := [(112, .ref 207), (0, .int x1), (0, .int a2)]) h3.1 ⟨Or.inr ⟨_, (h3.2 0 rfl).trans rfl⟩, Or.inr ⟨_, (h3.2 1 rfl).trans rfl⟩, Or.inr n2, trivial⟩ ?_
      cases h; exact qb _ _ hq
    cases h
  · intro v I2 _ h
    split at h
    · cases h; exact qr _ _ hq
    · cases h
def K_R_types_3 (x1 : Int32) (x2 : Int32) : M (Unit) :=
  lp (B_R_types_3 x1) FU x2
theorem s_R_types_3 {d : Nat} (hcs : AllS L X d cs_R_types) (x1 : Int32) (x2 : Int32) {o : Option Value × PH} {Q : (Unit) → MI → Prop} (q0 : ∀ v I, Q v I → o = (none, HH I)) (I : MI) (r : Unit) (I1 : MI) (h : K_R_types_3 x1 x2 I = some (r, I1)) (hq : Q r I1) : At L X (d + 1) 203 3 [(112, .ref 207), (0, .int x1), (0, .int x2)] [] I o := by
  unfold K_R_types_3 at h
  have w0 := fun w => at_lp (body := B_R_types_3 x1) (P := (fun (y : Int32) I => At L X (d + 1) 203 3 [(112, .ref 207), (0, .int x1), (0, .int y)] [] I o)) (Q := (fun (e : Unit) I => Q e I)) w FU x2 I r I1 h hq
  refine w0 ?_
  intro y I r I1 h hq
  exact b_R_types_3 hcs x1 (Q := SQ (fun (y : Int32) I => At L X (d + 1) 203 3 [(112, .ref 207), (0, .int x1), (0, .int y)] [] I o) (fun (e : Unit) I => Q e I)) (fun _ _ w => w) q0 y I r I1 h hq
def F_R_types (x1 : Int32) : M (Unit) :=
  K_R_types_3 x1 (24 : Int32)
set_option maxRecDepth 4000 in
theorem e_s_R_types_0 (k_3 : Int32 → Int32 → M (Unit)) (x1 : Int32) : wf (β := Unit) L X q_R_types 0 cs_R_types [2] [3] (fun pc ls st => mC (Nat.beq pc 3) (mN st <| gI ls 2 fun a2 => k_3 x1 a2) (fl)) (fun v => match v with | none => rt () | _ => fl) 28 0 [(112, .ref 207), (0, .int x1), (0, dV)] [] = (k_3 x1 (24 : Int32)) := rfl
theorem s_R_types_0 {d : Nat} (hcs : AllS L X d cs_R_types) (x1 : Int32) {o : Option Value × PH} {Q : (Unit) → MI → Prop} (q0 : ∀ v I, Q v I → o = (none, HH I)) (I : MI) (r : Unit) (I1 : MI) (h : F_R_types x1 I = some (r, I1)) (hq : Q r I1) : At L X (d + 1) 203 0 [(112, .ref 207), (0, .int x1), (0, dV)] [] I o := by
  refine wf_ok z_R_types hcs ?_ ?_ _ _ _ _ _ ⟨rfl, trivial, trivial, trivial⟩ trivial (unm_refl _ _) ((congrFun (e_s_R_types_0 (L := L) (X := X) K_R_types_3 x1) I).trans h)
  · intro pc ls st I2 h1 h2 h3 h
    rcases mC_ok h with ⟨hb, h⟩ | ⟨_, h⟩
    · have e := Nat.eq_of_beq_eq_true hb
      subst e
      obtain ⟨hst, h⟩ := mN_ok h
      subst hst
      obtain ⟨a2, n2, h⟩ := gI_ok h
      refine at_leaf (ls2 := [(112, .ref 207), (0, .int x1), (0, .int a2)]) h3.1 ⟨Or.inr ⟨_, (h3.2 0 rfl).trans rfl⟩, Or.inr ⟨_, (h3.2 1 rfl).trans rfl⟩, Or.inr n2, trivial⟩ ?_
      exact s_R_types_3 hcs x1 a2 q0 _ _ _ h hq
    cases h
  · intro v I2 _ h
    split at h
    · cases h; exact q0 _ _ hq
    · cases h
theorem w_R_types {d : Nat} (hcs : AllS L X d cs_R_types) : Snd L X (d + 1) 203 2 (W_R_types F_R_types) := by
  refine ⟨_, z_R_types, rfl, fun β args k I r hty hlen h => ?_⟩
  unfold W_R_types at h
  split at h
  · rename_i t0 a0 u1 a1
    obtain ⟨hb0, h⟩ := mB_ok h
    have e0 := Nat.eq_of_beq_eq_true hb0
    have g0 : okB 112 a0 = true := e0 ▸ hty.1
    have e20 := one_112 g0
    subst e20
    obtain ⟨v, I1, h1, h2⟩ := bn_some h
    refine ⟨gf_obj (c := 12) (by decide) g0, rfl, none, I1, trivial, ?_, h2⟩
    exact s_R_types_0 hcs a1  (Q := fun w I => w = v ∧ I = I1) (fun w I q => by obtain ⟨rfl, rfl⟩ := q; rfl) I v I1 h1 ⟨rfl, rfl⟩
  · cases h
theorem S_R_types {d : Nat} (hd : 1 ≤ d) : Snd L X d 203 2 (W_R_types F_R_types) := by
  obtain ⟨e, rfl⟩ : ∃ e, d = e + 1 := ⟨d - 1, by omega⟩
  exact w_R_types trivial
set_option maxRecDepth 100000 in
theorem z_R_feed : pT[202]? = some (q_R_feed, 6, 6, 1, 12) := rfl
def W_R_feed (F : Int32 → Int32 → Int32 → Int32 → Int32 → M Int32) : CSem := fun _ args k => match args with
  | [(t0, .ref a0), (_, .int a1), (_, .int a2), (_, .int a3), (_, .int a4), (_, .int a5)] => mB (Nat.beq t0 112) <| bn (F a1 a2 a3 a4 a5) fun v => k (some (0, .int v))
  | _ => fl
def cs_R_feed (f_R_types : Int32 → M Unit) : List (Nat × Nat × CSem) := [(203, 2, W_R_types f_R_types)]
def F_R_feed (x1 : Int32) (x2 : Int32) (x3 : Int32) (x4 : Int32) (x5 : Int32) : M (Int32) :=
  bn (wr 207 0 (0 : Int32)) fun _ =>
  bn (rd 207 14) fun v1 =>
  (if (380 : Int32) < v1 then
    rt (-1 : Int32)
  else
    bn (F_R_types x1) fun _ =>
    bn (F_R_types x2) fun _ =>
    bn (F_R_types x3) fun _ =>
    bn (F_R_types x4) fun _ =>
    bn (F_R_types x5) fun _ =>
    bn (rd 207 14) fun v2 =>
    rt v2)
set_option maxRecDepth 4000 in
theorem e_s_R_feed_0 (f_R_types : Int32 → M Unit) (x1 : Int32) (x2 : Int32) (x3 : Int32) (x4 : Int32) (x5 : Int32) : wf (β := Int32) L X q_R_feed 1 (cs_R_feed f_R_types) [] [] (fun _ _ _ => fl) (fun v => match v with | some (_, .int x) => rt x | _ => fl) 32 0 [(112, .ref 207), (0, .int x1), (0, .int x2), (0, .int x3), (0, .int x4), (0, .int x5)] [] = (bn (wr 207 0 (0 : Int32)) fun _ =>
  bn (rd 207 14) fun v1 =>
  (if (380 : Int32) < v1 then
    rt (-1 : Int32)
  else
    bn (f_R_types x1) fun _ =>
    bn (f_R_types x2) fun _ =>
    bn (f_R_types x3) fun _ =>
    bn (f_R_types x4) fun _ =>
    bn (f_R_types x5) fun _ =>
    bn (rd 207 14) fun v2 =>
    rt v2)) := rfl
theorem s_R_feed_0 {d : Nat} (hcs : AllS L X d (cs_R_feed F_R_types)) (x1 : Int32) (x2 : Int32) (x3 : Int32) (x4 : Int32) (x5 : Int32) {o : Option Value × PH} {Q : (Int32) → MI → Prop} (q0 : ∀ v I, Q v I → o = (some (.int v), HH I)) (I : MI) (r : Int32) (I1 : MI) (h : F_R_feed x1 x2 x3 x4 x5 I = some (r, I1)) (hq : Q r I1) : At L X (d + 1) 202 0 [(112, .ref 207), (0, .int x1), (0, .int x2), (0, .int x3), (0, .int x4), (0, .int x5)] [] I o := by
  refine wf_ok z_R_feed hcs ?_ ?_ _ _ _ _ _ ⟨rfl, trivial, trivial, trivial, trivial, trivial, trivial⟩ trivial (unm_refl _ _) ((congrFun (e_s_R_feed_0 (L := L) (X := X) F_R_types x1 x2 x3 x4 x5) I).trans h)
  · intro pc ls st I2 h1 h2 h3 h
    cases h
  · intro v I2 _ h
    split at h
    · cases h; exact q0 _ _ hq
    · cases h
theorem w_R_feed {d : Nat} (hcs : AllS L X d (cs_R_feed F_R_types)) : Snd L X (d + 1) 202 6 (W_R_feed F_R_feed) := by
  refine ⟨_, z_R_feed, rfl, fun β args k I r hty hlen h => ?_⟩
  unfold W_R_feed at h
  split at h
  · rename_i t0 a0 u1 a1 u2 a2 u3 a3 u4 a4 u5 a5
    obtain ⟨hb0, h⟩ := mB_ok h
    have e0 := Nat.eq_of_beq_eq_true hb0
    have g0 : okB 112 a0 = true := e0 ▸ hty.1
    have e20 := one_112 g0
    subst e20
    obtain ⟨v, I1, h1, h2⟩ := bn_some h
    refine ⟨gf_obj (c := 12) (by decide) g0, rfl, some (0, .int v), I1, trivial, ?_, h2⟩
    exact s_R_feed_0 hcs a1 a2 a3 a4 a5  (Q := fun w I => w = v ∧ I = I1) (fun w I q => by obtain ⟨rfl, rfl⟩ := q; rfl) I v I1 h1 ⟨rfl, rfl⟩
  · cases h
theorem S_R_feed {d : Nat} (hd : 2 ≤ d) : Snd L X d 202 6 (W_R_feed F_R_feed) := by
  obtain ⟨e, rfl⟩ : ∃ e, d = e + 1 := ⟨d - 1, by omega⟩
  exact w_R_feed ⟨S_R_types (by omega), trivial⟩
set_option maxRecDepth 100000 in
theorem z_R_leaves : pT[324]? = some (q_R_leaves, 5, 5, 1, 12) := rfl
def W_R_leaves (F : Int32 → Int32 → Int32 → Int32 → M Int32) : CSem := fun _ args k => match args with
  | [(t0, .ref a0), (_, .int a1), (_, .int a2), (_, .int a3), (_, .int a4)] => mB (Nat.beq t0 112) <| bn (F a1 a2 a3 a4) fun v => k (some (0, .int v))
  | _ => fl
def cs_R_leaves : List (Nat × Nat × CSem) := []
def F_R_leaves (x1 : Int32) (x2 : Int32) (x3 : Int32) (x4 : Int32) : M (Int32) :=
  (if x1 < x3 then
    rt (1 : Int32)
  else
    (if x2 < x4 then
      rt (1 : Int32)
    else
      bn (ld 1681 252 ((((41 : Int32) * (x1 - x3)) + x2) - x4)) fun v1 =>
      rt v1))
set_option maxRecDepth 4000 in
theorem e_s_R_leaves_0 (x1 : Int32) (x2 : Int32) (x3 : Int32) (x4 : Int32) : wf (β := Int32) L X q_R_leaves 1 cs_R_leaves [] [] (fun _ _ _ => fl) (fun v => match v with | some (_, .int x) => rt x | _ => fl) 26 0 [(112, .ref 207), (0, .int x1), (0, .int x2), (0, .int x3), (0, .int x4)] [] = ((if x1 < x3 then
    rt (1 : Int32)
  else
    (if x2 < x4 then
      rt (1 : Int32)
    else
      bn (ld 1681 252 ((((41 : Int32) * (x1 - x3)) + x2) - x4)) fun v1 =>
      rt v1))) := rfl
theorem s_R_leaves_0 {d : Nat} (hcs : AllS L X d cs_R_leaves) (x1 : Int32) (x2 : Int32) (x3 : Int32) (x4 : Int32) {o : Option Value × PH} {Q : (Int32) → MI → Prop} (q0 : ∀ v I, Q v I → o = (some (.int v), HH I)) (I : MI) (r : Int32) (I1 : MI) (h : F_R_leaves x1 x2 x3 x4 I = some (r, I1)) (hq : Q r I1) : At L X (d + 1) 324 0 [(112, .ref 207), (0, .int x1), (0, .int x2), (0, .int x3), (0, .int x4)] [] I o := by
  refine wf_ok z_R_leaves hcs ?_ ?_ _ _ _ _ _ ⟨rfl, trivial, trivial, trivial, trivial, trivial⟩ trivial (unm_refl _ _) ((congrFun (e_s_R_leaves_0 (L := L) (X := X) x1 x2 x3 x4) I).trans h)
  · intro pc ls st I2 h1 h2 h3 h
    cases h
  · intro v I2 _ h
    split at h
    · cases h; exact q0 _ _ hq
    · cases h
theorem w_R_leaves {d : Nat} (hcs : AllS L X d cs_R_leaves) : Snd L X (d + 1) 324 5 (W_R_leaves F_R_leaves) := by
  refine ⟨_, z_R_leaves, rfl, fun β args k I r hty hlen h => ?_⟩
  unfold W_R_leaves at h
  split at h
  · rename_i t0 a0 u1 a1 u2 a2 u3 a3 u4 a4
    obtain ⟨hb0, h⟩ := mB_ok h
    have e0 := Nat.eq_of_beq_eq_true hb0
    have g0 : okB 112 a0 = true := e0 ▸ hty.1
    have e20 := one_112 g0
    subst e20
    obtain ⟨v, I1, h1, h2⟩ := bn_some h
    refine ⟨gf_obj (c := 12) (by decide) g0, rfl, some (0, .int v), I1, trivial, ?_, h2⟩
    exact s_R_leaves_0 hcs a1 a2 a3 a4  (Q := fun w I => w = v ∧ I = I1) (fun w I q => by obtain ⟨rfl, rfl⟩ := q; rfl) I v I1 h1 ⟨rfl, rfl⟩
  · cases h
theorem S_R_leaves {d : Nat} (hd : 1 ≤ d) : Snd L X d 324 5 (W_R_leaves F_R_leaves) := by
  obtain ⟨e, rfl⟩ : ∃ e, d = e + 1 := ⟨d - 1, by omega⟩
  exact w_R_leaves trivial
set_option maxRecDepth 100000 in
theorem z_R_goodTaking : pT[323]? = some (q_R_goodTaking, 3, 4, 1, 12) := rfl
def W_R_goodTaking (F : Int32 → Int32 → M Int32) : CSem := fun _ args k => match args with
  | [(t0, .ref a0), (_, .int a1), (_, .int a2)] => mB (Nat.beq t0 112) <| bn (F a1 a2) fun v => k (some (0, .int v))
  | _ => fl
def cs_R_goodTaking (f_R_leaves : Int32 → Int32 → Int32 → Int32 → M Int32) : List (Nat × Nat × CSem) := [(324, 5, W_R_leaves f_R_leaves)]
def B_R_goodTaking_2 (x1 : Int32) (x2 : Int32) (y : Int32) : M ((Int32) ⊕ (Int32)) :=
  (if (x1 + x2) < y then
    rt (.inr (-1 : Int32))
  else
    bn (F_R_leaves x1 x2 (0 : Int32) y) fun v1 =>
    (if v1 = 0 then
      rt (.inr y)
    else
      dvI (2 : Int32) <|
      (if (y - y / (2 : Int32) * (2 : Int32)) = 0 then
        dvI (2 : Int32) <|
        dvI (2 : Int32) <|
        bn (F_R_leaves x1 x2 (y / (2 : Int32)) (y / (2 : Int32))) fun v3 =>
        (if v3 = 0 then
          dvI (2 : Int32) <|
          rt (.inr ((101 : Int32) * (y / (2 : Int32))))
        else
          bn (F_R_leaves x1 x2 y (0 : Int32)) fun v4 =>
          (if v4 = 0 then
            rt (.inr ((100 : Int32) * y))
          else
            rt (.inl (y + (1 : Int32)))))
      else
        bn (F_R_leaves x1 x2 y (0 : Int32)) fun v2 =>
        (if v2 = 0 then
          rt (.inr ((100 : Int32) * y))
        else
          rt (.inl (y + (1 : Int32)))))))
set_option maxRecDepth 4000 in
theorem e_b_R_goodTaking_2 (f_R_leaves : Int32 → Int32 → Int32 → Int32 → M Int32) (x1 : Int32) (x2 : Int32) (y : Int32) : wf (β := (Int32) ⊕ (Int32)) L X q_R_goodTaking 1 (cs_R_goodTaking f_R_leaves) [3] [2] (fun pc ls st => mC (Nat.beq pc 2) (mN st <| gI ls 3 fun a3 => rt (.inl a3)) (fl)) (fun v => match v with | some (_, .int x) => rt (.inr x) | _ => fl) 57 2 [(112, .ref 207), (0, .int x1), (0, .int x2), (0, .int y)] [] = ((if (x1 + x2) < y then
    rt (.inr (-1 : Int32))
  else
    bn (f_R_leaves x1 x2 (0 : Int32) y) fun v1 =>
    (if v1 = 0 then
      rt (.inr y)
    else
      dvI (2 : Int32) <|
      (if (y - y / (2 : Int32) * (2 : Int32)) = 0 then
        dvI (2 : Int32) <|
        dvI (2 : Int32) <|
        bn (f_R_leaves x1 x2 (y / (2 : Int32)) (y / (2 : Int32))) fun v3 =>
        (if v3 = 0 then
          dvI (2 : Int32) <|
          rt (.inr ((101 : Int32) * (y / (2 : Int32))))
        else
          bn (f_R_leaves x1 x2 y (0 : Int32)) fun v4 =>
          (if v4 = 0 then
            rt (.inr ((100 : Int32) * y))
          else
            rt (.inl (y + (1 : Int32)))))
      else
        bn (f_R_leaves x1 x2 y (0 : Int32)) fun v2 =>
        (if v2 = 0 then
          rt (.inr ((100 : Int32) * y))
        else
          rt (.inl (y + (1 : Int32)))))))) := rfl
theorem b_R_goodTaking_2 {d : Nat} (hcs : AllS L X d (cs_R_goodTaking F_R_leaves)) (x1 : Int32) (x2 : Int32) {o : Option Value × PH} {Q : ((Int32) ⊕ (Int32)) → MI → Prop} (qb : ∀ y I, Q (.inl y) I → At L X (d + 1) 323 2 [(112, .ref 207), (0, .int x1), (0, .int x2), (0, .int y)] [] I o) (qr : ∀ v I, Q (.inr v) I → o = (some (.int v), HH I)) (y : Int32) (I : MI) (r : (Int32) ⊕ (Int32)) (I1 : MI) (h : B_R_goodTaking_2 x1 x2 y I = some (r, I1)) (hq : Q r I1) : At L X (d + 1) 323 2 [(112, .ref 207), (0, .int x1), (0, .int x2), (0, .int y)] [] I o := by
  refine wf_ok z_R_goodTaking hcs ?_ ?_ _ _ _ _ _ ⟨rfl, trivial, trivial, trivial, trivial⟩ trivial (unm_refl _ _) ((congrFun (e_b_R_goodTaking_2 (L := L) (X := X) F_R_leaves x1 x2 y) I).trans h)
  · intro pc ls st I2 h1 h2 h3 h
    rcases mC_ok h with ⟨hb, h⟩ | ⟨_, h⟩
    · have e := Nat.eq_of_beq_eq_true hb
      subst e
      obtain ⟨hst, h⟩ := mN_ok h
      subst hst
      obtain ⟨a3, n3, h⟩ := gI_ok h
      refine at_leaf (ls2 := [(112, .ref 207), (0, .int x1), (0, .int x2), (0, .int a3)]) h3.1 ⟨Or.inr ⟨_, (h3.2 0 rfl).trans rfl⟩, Or.inr ⟨_, (h3.2 1 rfl).trans rfl⟩, Or.inr ⟨_, (h3.2 2 rfl).trans rfl⟩, Or.inr n3, trivial⟩ ?_
      cases h; exact qb _ _ hq
    cases h
  · intro v I2 _ h
    split at h
    · cases h; exact qr _ _ hq
    · cases h
def K_R_goodTaking_2 (x1 : Int32) (x2 : Int32) (x3 : Int32) : M (Int32) :=
  lp (B_R_goodTaking_2 x1 x2) FU x3
theorem s_R_goodTaking_2 {d : Nat} (hcs : AllS L X d (cs_R_goodTaking F_R_leaves)) (x1 : Int32) (x2 : Int32) (x3 : Int32) {o : Option Value × PH} {Q : (Int32) → MI → Prop} (q0 : ∀ v I, Q v I → o = (some (.int v), HH I)) (I : MI) (r : Int32) (I1 : MI) (h : K_R_goodTaking_2 x1 x2 x3 I = some (r, I1)) (hq : Q r I1) : At L X (d + 1) 323 2 [(112, .ref 207), (0, .int x1), (0, .int x2), (0, .int x3)] [] I o := by
  unfold K_R_goodTaking_2 at h
  have w0 := fun w => at_lp (body := B_R_goodTaking_2 x1 x2) (P := (fun (y : Int32) I => At L X (d + 1) 323 2 [(112, .ref 207), (0, .int x1), (0, .int x2), (0, .int y)] [] I o)) (Q := (fun (e : Int32) I => Q e I)) w FU x3 I r I1 h hq
  refine w0 ?_
  intro y I r I1 h hq
  exact b_R_goodTaking_2 hcs x1 x2 (Q := SQ (fun (y : Int32) I => At L X (d + 1) 323 2 [(112, .ref 207), (0, .int x1), (0, .int x2), (0, .int y)] [] I o) (fun (e : Int32) I => Q e I)) (fun _ _ w => w) q0 y I r I1 h hq
def F_R_goodTaking (x1 : Int32) (x2 : Int32) : M (Int32) :=
  K_R_goodTaking_2 x1 x2 (1 : Int32)
set_option maxRecDepth 4000 in
theorem e_s_R_goodTaking_0 (f_R_leaves : Int32 → Int32 → Int32 → Int32 → M Int32) (k_2 : Int32 → Int32 → Int32 → M (Int32)) (x1 : Int32) (x2 : Int32) : wf (β := Int32) L X q_R_goodTaking 1 (cs_R_goodTaking f_R_leaves) [3] [2] (fun pc ls st => mC (Nat.beq pc 2) (mN st <| gI ls 3 fun a3 => k_2 x1 x2 a3) (fl)) (fun v => match v with | some (_, .int x) => rt x | _ => fl) 57 0 [(112, .ref 207), (0, .int x1), (0, .int x2), (0, dV)] [] = (k_2 x1 x2 (1 : Int32)) := rfl
theorem s_R_goodTaking_0 {d : Nat} (hcs : AllS L X d (cs_R_goodTaking F_R_leaves)) (x1 : Int32) (x2 : Int32) {o : Option Value × PH} {Q : (Int32) → MI → Prop} (q0 : ∀ v I, Q v I → o = (some (.int v), HH I)) (I : MI) (r : Int32) (I1 : MI) (h : F_R_goodTaking x1 x2 I = some (r, I1)) (hq : Q r I1) : At L X (d + 1) 323 0 [(112, .ref 207), (0, .int x1), (0, .int x2), (0, dV)] [] I o := by
  refine wf_ok z_R_goodTaking hcs ?_ ?_ _ _ _ _ _ ⟨rfl, trivial, trivial, trivial, trivial⟩ trivial (unm_refl _ _) ((congrFun (e_s_R_goodTaking_0 (L := L) (X := X) F_R_leaves K_R_goodTaking_2 x1 x2) I).trans h)
  · intro pc ls st I2 h1 h2 h3 h
    rcases mC_ok h with ⟨hb, h⟩ | ⟨_, h⟩
    · have e := Nat.eq_of_beq_eq_true hb
      subst e
      obtain ⟨hst, h⟩ := mN_ok h
      subst hst
      obtain ⟨a3, n3, h⟩ := gI_ok h
      refine at_leaf (ls2 := [(112, .ref 207), (0, .int x1), (0, .int x2), (0, .int a3)]) h3.1 ⟨Or.inr ⟨_, (h3.2 0 rfl).trans rfl⟩, Or.inr ⟨_, (h3.2 1 rfl).trans rfl⟩, Or.inr ⟨_, (h3.2 2 rfl).trans rfl⟩, Or.inr n3, trivial⟩ ?_
      exact s_R_goodTaking_2 hcs x1 x2 a3 q0 _ _ _ h hq
    cases h
  · intro v I2 _ h
    split at h
    · cases h; exact q0 _ _ hq
    · cases h
theorem w_R_goodTaking {d : Nat} (hcs : AllS L X d (cs_R_goodTaking F_R_leaves)) : Snd L X (d + 1) 323 3 (W_R_goodTaking F_R_goodTaking) := by
  refine ⟨_, z_R_goodTaking, rfl, fun β args k I r hty hlen h => ?_⟩
  unfold W_R_goodTaking at h
  split at h
  · rename_i t0 a0 u1 a1 u2 a2
    obtain ⟨hb0, h⟩ := mB_ok h
    have e0 := Nat.eq_of_beq_eq_true hb0
    have g0 : okB 112 a0 = true := e0 ▸ hty.1
    have e20 := one_112 g0
    subst e20
    obtain ⟨v, I1, h1, h2⟩ := bn_some h
    refine ⟨gf_obj (c := 12) (by decide) g0, rfl, some (0, .int v), I1, trivial, ?_, h2⟩
    exact s_R_goodTaking_0 hcs a1 a2  (Q := fun w I => w = v ∧ I = I1) (fun w I q => by obtain ⟨rfl, rfl⟩ := q; rfl) I v I1 h1 ⟨rfl, rfl⟩
  · cases h
theorem S_R_goodTaking {d : Nat} (hd : 2 ≤ d) : Snd L X d 323 3 (W_R_goodTaking F_R_goodTaking) := by
  obtain ⟨e, rfl⟩ : ∃ e, d = e + 1 := ⟨d - 1, by omega⟩
  exact w_R_goodTaking ⟨S_R_leaves (by omega), trivial⟩
set_option maxRecDepth 100000 in
theorem z_R_game : pT[322]? = some (q_R_game, 4, 6, 1, 12) := rfl
def W_R_game (F : Int32 → Int32 → Int32 → M Int32) : CSem := fun _ args k => match args with
  | [(t0, .ref a0), (_, .int a1), (_, .int a2), (_, .int a3)] => mB (Nat.beq t0 112) <| bn (F a1 a2 a3) fun v => k (some (0, .int v))
  | _ => fl
def cs_R_game (f_R_goodTaking : Int32 → Int32 → M Int32) (f_R_isIn : Int32 → Int32 → Int32 → M Int32) : List (Nat × Nat × CSem) := [(323, 3, W_R_goodTaking f_R_goodTaking), (195, 4, W_R_isIn f_R_isIn)]
def B_R_game_51 (x1 : Int32) (x2 : Int32) (x3 : Int32) (x4 : Int32) (y : Int32) : M ((Int32) ⊕ ((Unit))) :=
  (if x2 < y then
    rt (.inr ())
  else
    bn (F_R_goodTaking x4 y) fun v1 =>
    (if v1 = (-1 : Int32) then
      bn (sr 1681 252 (((41 : Int32) * x4) + y) (0 : Int32)) fun _ =>
      rt (.inl (y + (1 : Int32)))
    else
      bn (sr 1681 252 (((41 : Int32) * x4) + y) (1 : Int32)) fun _ =>
      rt (.inl (y + (1 : Int32)))))
set_option maxRecDepth 4000 in
theorem e_b_R_game_51 (f_R_goodTaking : Int32 → Int32 → M Int32) (f_R_isIn : Int32 → Int32 → Int32 → M Int32) (x1 : Int32) (x2 : Int32) (x3 : Int32) (x4 : Int32) (y : Int32) : wf (β := (Int32) ⊕ ((Unit))) L X q_R_game 1 (cs_R_game f_R_goodTaking f_R_isIn) [5] [42, 51, 93, 99] (fun pc ls st => mC (Nat.beq pc 51) (mN st <| gI ls 5 fun a5 => rt (.inl a5)) (mC (Nat.beq pc 93) (mN st <| gD ls 5 <| rt (.inr ())) (fl))) (fun _ => fl) 79 51 [(112, .ref 207), (0, .int x1), (0, .int x2), (0, .int x3), (0, .int x4), (0, .int y)] [] = ((if x2 < y then
    rt (.inr ())
  else
    bn (f_R_goodTaking x4 y) fun v1 =>
    (if v1 = (-1 : Int32) then
      bn (sr 1681 252 (((41 : Int32) * x4) + y) (0 : Int32)) fun _ =>
      rt (.inl (y + (1 : Int32)))
    else
      bn (sr 1681 252 (((41 : Int32) * x4) + y) (1 : Int32)) fun _ =>
      rt (.inl (y + (1 : Int32)))))) := rfl
theorem b_R_game_51 {d : Nat} (hcs : AllS L X d (cs_R_game F_R_goodTaking F_R_isIn)) (x1 : Int32) (x2 : Int32) (x3 : Int32) (x4 : Int32) {o : Option Value × PH} {Q : ((Int32) ⊕ ((Unit))) → MI → Prop} (qb : ∀ y I, Q (.inl y) I → At L X (d + 1) 322 51 [(112, .ref 207), (0, .int x1), (0, .int x2), (0, .int x3), (0, .int x4), (0, .int y)] [] I o) (qe93 : ∀ y I, Q (.inr y) I → At L X (d + 1) 322 93 [(112, .ref 207), (0, .int x1), (0, .int x2), (0, .int x3), (0, .int x4), (0, dV)] [] I o) (y : Int32) (I : MI) (r : (Int32) ⊕ ((Unit))) (I1 : MI) (h : B_R_game_51 x1 x2 x3 x4 y I = some (r, I1)) (hq : Q r I1) : At L X (d + 1) 322 51 [(112, .ref 207), (0, .int x1), (0, .int x2), (0, .int x3), (0, .int x4), (0, .int y)] [] I o := by
  refine wf_ok z_R_game hcs ?_ ?_ _ _ _ _ _ ⟨rfl, trivial, trivial, trivial, trivial, trivial, trivial⟩ trivial (unm_refl _ _) ((congrFun (e_b_R_game_51 (L := L) (X := X) F_R_goodTaking F_R_isIn x1 x2 x3 x4 y) I).trans h)
  · intro pc ls st I2 h1 h2 h3 h
    rcases mC_ok h with ⟨hb, h⟩ | ⟨_, h⟩
    · have e := Nat.eq_of_beq_eq_true hb
      subst e
      obtain ⟨hst, h⟩ := mN_ok h
      subst hst
      obtain ⟨a5, n5, h⟩ := gI_ok h
      refine at_leaf (ls2 := [(112, .ref 207), (0, .int x1), (0, .int x2), (0, .int x3), (0, .int x4), (0, .int a5)]) h3.1 ⟨Or.inr ⟨_, (h3.2 0 rfl).trans rfl⟩, Or.inr ⟨_, (h3.2 1 rfl).trans rfl⟩, Or.inr ⟨_, (h3.2 2 rfl).trans rfl⟩, Or.inr ⟨_, (h3.2 3 rfl).trans rfl⟩, Or.inr ⟨_, (h3.2 4 rfl).trans rfl⟩, Or.inr n5, trivial⟩ ?_
      cases h; exact qb _ _ hq
    rcases mC_ok h with ⟨hb, h⟩ | ⟨_, h⟩
    · have e := Nat.eq_of_beq_eq_true hb
      subst e
      obtain ⟨hst, h⟩ := mN_ok h
      subst hst
      obtain ⟨n5, h⟩ := gD_ok h
      refine at_leaf (ls2 := [(112, .ref 207), (0, .int x1), (0, .int x2), (0, .int x3), (0, .int x4), (0, dV)]) h3.1 ⟨Or.inr ⟨_, (h3.2 0 rfl).trans rfl⟩, Or.inr ⟨_, (h3.2 1 rfl).trans rfl⟩, Or.inr ⟨_, (h3.2 2 rfl).trans rfl⟩, Or.inr ⟨_, (h3.2 3 rfl).trans rfl⟩, Or.inr ⟨_, (h3.2 4 rfl).trans rfl⟩, Or.inl ⟨rfl, n5⟩, trivial⟩ ?_
      cases h; exact qe93 _ _ hq
    cases h
  · intro v I2 _ h
    cases h
def K_R_game_93 (x1 : Int32) (x2 : Int32) (x3 : Int32) (x4 : Int32) : M ((Int32) ⊕ ((Unit))) :=
  rt (.inl (x4 + (1 : Int32)))
set_option maxRecDepth 4000 in
theorem e_s_R_game_93 (f_R_goodTaking : Int32 → Int32 → M Int32) (f_R_isIn : Int32 → Int32 → Int32 → M Int32) (x1 : Int32) (x2 : Int32) (x3 : Int32) (x4 : Int32) : wf (β := (Int32) ⊕ ((Unit))) L X q_R_game 1 (cs_R_game f_R_goodTaking f_R_isIn) [4] [42, 51, 93, 99] (fun pc ls st => mC (Nat.beq pc 42) (mN st <| gI ls 4 fun a4 => gD ls 5 <| rt (.inl a4)) (fl)) (fun _ => fl) 79 93 [(112, .ref 207), (0, .int x1), (0, .int x2), (0, .int x3), (0, .int x4), (0, dV)] [] = (rt (.inl (x4 + (1 : Int32)))) := rfl
theorem s_R_game_93 {d : Nat} (hcs : AllS L X d (cs_R_game F_R_goodTaking F_R_isIn)) (x1 : Int32) (x2 : Int32) (x3 : Int32) (x4 : Int32) {o : Option Value × PH} {Q : ((Int32) ⊕ ((Unit))) → MI → Prop} (qb : ∀ y I, Q (.inl y) I → At L X (d + 1) 322 42 [(112, .ref 207), (0, .int x1), (0, .int x2), (0, .int x3), (0, .int y), (0, dV)] [] I o) (qe99 : ∀ y I, Q (.inr y) I → At L X (d + 1) 322 99 [(112, .ref 207), (0, .int x1), (0, .int x2), (0, .int x3), (0, dV), (0, dV)] [] I o) (I : MI) (r : (Int32) ⊕ ((Unit))) (I1 : MI) (h : K_R_game_93 x1 x2 x3 x4 I = some (r, I1)) (hq : Q r I1) : At L X (d + 1) 322 93 [(112, .ref 207), (0, .int x1), (0, .int x2), (0, .int x3), (0, .int x4), (0, dV)] [] I o := by
  refine wf_ok z_R_game hcs ?_ ?_ _ _ _ _ _ ⟨rfl, trivial, trivial, trivial, trivial, trivial, trivial⟩ trivial (unm_refl _ _) ((congrFun (e_s_R_game_93 (L := L) (X := X) F_R_goodTaking F_R_isIn x1 x2 x3 x4) I).trans h)
  · intro pc ls st I2 h1 h2 h3 h
    rcases mC_ok h with ⟨hb, h⟩ | ⟨_, h⟩
    · have e := Nat.eq_of_beq_eq_true hb
      subst e
      obtain ⟨hst, h⟩ := mN_ok h
      subst hst
      obtain ⟨a4, n4, h⟩ := gI_ok h
      obtain ⟨n5, h⟩ := gD_ok h
      refine at_leaf (ls2 := [(112, .ref 207), (0, .int x1), (0, .int x2), (0, .int x3), (0, .int a4), (0, dV)]) h3.1 ⟨Or.inr ⟨_, (h3.2 0 rfl).trans rfl⟩, Or.inr ⟨_, (h3.2 1 rfl).trans rfl⟩, Or.inr ⟨_, (h3.2 2 rfl).trans rfl⟩, Or.inr ⟨_, (h3.2 3 rfl).trans rfl⟩, Or.inr n4, Or.inl ⟨rfl, n5⟩, trivial⟩ ?_
      cases h; exact qb _ _ hq
    cases h
  · intro v I2 _ h
    cases h
def K_R_game_51 (x1 : Int32) (x2 : Int32) (x3 : Int32) (x4 : Int32) (x5 : Int32) : M ((Int32) ⊕ ((Unit))) :=
  bn (lp (B_R_game_51 x1 x2 x3 x4) FU x5) fun e => K_R_game_93 x1 x2 x3 x4
theorem s_R_game_51 {d : Nat} (hcs : AllS L X d (cs_R_game F_R_goodTaking F_R_isIn)) (x1 : Int32) (x2 : Int32) (x3 : Int32) (x4 : Int32) (x5 : Int32) {o : Option Value × PH} {Q : ((Int32) ⊕ ((Unit))) → MI → Prop} (qb : ∀ y I, Q (.inl y) I → At L X (d + 1) 322 42 [(112, .ref 207), (0, .int x1), (0, .int x2), (0, .int x3), (0, .int y), (0, dV)] [] I o) (qe99 : ∀ y I, Q (.inr y) I → At L X (d + 1) 322 99 [(112, .ref 207), (0, .int x1), (0, .int x2), (0, .int x3), (0, dV), (0, dV)] [] I o) (I : MI) (r : (Int32) ⊕ ((Unit))) (I1 : MI) (h : K_R_game_51 x1 x2 x3 x4 x5 I = some (r, I1)) (hq : Q r I1) : At L X (d + 1) 322 51 [(112, .ref 207), (0, .int x1), (0, .int x2), (0, .int x3), (0, .int x4), (0, .int x5)] [] I o := by
  unfold K_R_game_51 at h
  obtain ⟨e, I2, h1, h2⟩ := bn_some h
  have w0 := fun w => at_lp (body := B_R_game_51 x1 x2 x3 x4) (P := (fun (y : Int32) I => At L X (d + 1) 322 51 [(112, .ref 207), (0, .int x1), (0, .int x2), (0, .int x3), (0, .int x4), (0, .int y)] [] I o)) (Q := (fun (e : (Unit)) I => (K_R_game_93 x1 x2 x3 x4) I = some (r, I1))) w FU x5 I e I2 h1 h2
  refine w0 ?_
  intro y I r2 I3 h hq2
  exact b_R_game_51 hcs x1 x2 x3 x4 (Q := SQ (fun (y : Int32) I => At L X (d + 1) 322 51 [(112, .ref 207), (0, .int x1), (0, .int x2), (0, .int x3), (0, .int x4), (0, .int y)] [] I o) (fun (e : (Unit)) I => (K_R_game_93 x1 x2 x3 x4) I = some (r, I1))) (fun _ _ w => w) (fun y I w => s_R_game_93 hcs x1 x2 x3 x4 qb qe99 _ _ _ w hq) y I r2 I3 h hq2
def B_R_game_42 (x1 : Int32) (x2 : Int32) (x3 : Int32) (y : Int32) : M ((Int32) ⊕ ((Unit))) :=
  (if x1 < y then
    rt (.inr ())
  else
    K_R_game_51 x1 x2 x3 y (0 : Int32))
set_option maxRecDepth 4000 in
theorem e_b_R_game_42 (f_R_goodTaking : Int32 → Int32 → M Int32) (f_R_isIn : Int32 → Int32 → Int32 → M Int32) (k_51 : Int32 → Int32 → Int32 → Int32 → Int32 → M ((Int32) ⊕ ((Unit)))) (x1 : Int32) (x2 : Int32) (x3 : Int32) (y : Int32) : wf (β := (Int32) ⊕ ((Unit))) L X q_R_game 1 (cs_R_game f_R_goodTaking f_R_isIn) [5] [42, 51, 93, 99] (fun pc ls st => mC (Nat.beq pc 51) (mN st <| gI ls 5 fun a5 => k_51 x1 x2 x3 y a5) (mC (Nat.beq pc 99) (mN st <| gD ls 4 <| gD ls 5 <| rt (.inr ())) (fl))) (fun _ => fl) 79 42 [(112, .ref 207), (0, .int x1), (0, .int x2), (0, .int x3), (0, .int y), (0, dV)] [] = ((if x1 < y then
    rt (.inr ())
  else
    k_51 x1 x2 x3 y (0 : Int32))) := rfl
theorem b_R_game_42 {d : Nat} (hcs : AllS L X d (cs_R_game F_R_goodTaking F_R_isIn)) (x1 : Int32) (x2 : Int32) (x3 : Int32) {o : Option Value × PH} {Q : ((Int32) ⊕ ((Unit))) → MI → Prop} (qb : ∀ y I, Q (.inl y) I → At L X (d + 1) 322 42 [(112, .ref 207), (0, .int x1), (0, .int x2), (0, .int x3), (0, .int y), (0, dV)] [] I o) (qe99 : ∀ y I, Q (.inr y) I → At L X (d + 1) 322 99 [(112, .ref 207), (0, .int x1), (0, .int x2), (0, .int x3), (0, dV), (0, dV)] [] I o) (y : Int32) (I : MI) (r : (Int32) ⊕ ((Unit))) (I1 : MI) (h : B_R_game_42 x1 x2 x3 y I = some (r, I1)) (hq : Q r I1) : At L X (d + 1) 322 42 [(112, .ref 207), (0, .int x1), (0, .int x2), (0, .int x3), (0, .int y), (0, dV)] [] I o := by
  refine wf_ok z_R_game hcs ?_ ?_ _ _ _ _ _ ⟨rfl, trivial, trivial, trivial, trivial, trivial, trivial⟩ trivial (unm_refl _ _) ((congrFun (e_b_R_game_42 (L := L) (X := X) F_R_goodTaking F_R_isIn K_R_game_51 x1 x2 x3 y) I).trans h)
  · intro pc ls st I2 h1 h2 h3 h
    rcases mC_ok h with ⟨hb, h⟩ | ⟨_, h⟩
    · have e := Nat.eq_of_beq_eq_true hb
      subst e
      obtain ⟨hst, h⟩ := mN_ok h
      subst hst
      obtain ⟨a5, n5, h⟩ := gI_ok h
      refine at_leaf (ls2 := [(112, .ref 207), (0, .int x1), (0, .int x2), (0, .int x3), (0, .int y), (0, .int a5)]) h3.1 ⟨Or.inr ⟨_, (h3.2 0 rfl).trans rfl⟩, Or.inr ⟨_, (h3.2 1 rfl).trans rfl⟩, Or.inr ⟨_, (h3.2 2 rfl).trans rfl⟩, Or.inr ⟨_, (h3.2 3 rfl).trans rfl⟩, Or.inr ⟨_, (h3.2 4 rfl).trans rfl⟩, Or.inr n5, trivial⟩ ?_
      exact s_R_game_51 hcs x1 x2 x3 y a5 qb qe99 _ _ _ h hq
    rcases mC_ok h with ⟨hb, h⟩ | ⟨_, h⟩
    · have e := Nat.eq_of_beq_eq_true hb
      subst e
      obtain ⟨hst, h⟩ := mN_ok h
      subst hst
      obtain ⟨n4, h⟩ := gD_ok h
      obtain ⟨n5, h⟩ := gD_ok h
      refine at_leaf (ls2 := [(112, .ref 207), (0, .int x1), (0, .int x2), (0, .int x3), (0, dV), (0, dV)]) h3.1 ⟨Or.inr ⟨_, (h3.2 0 rfl).trans rfl⟩, Or.inr ⟨_, (h3.2 1 rfl).trans rfl⟩, Or.inr ⟨_, (h3.2 2 rfl).trans rfl⟩, Or.inr ⟨_, (h3.2 3 rfl).trans rfl⟩, Or.inl ⟨rfl, n4⟩, Or.inl ⟨rfl, n5⟩, trivial⟩ ?_
      cases h; exact qe99 _ _ hq
    cases h
  · intro v I2 _ h
    cases h
def K_R_game_99 (x1 : Int32) (x2 : Int32) (x3 : Int32) : M (Int32) :=
  bn (F_R_goodTaking x1 x2) fun v1 =>
  (if v1 = (-1 : Int32) then
    rt (-1 : Int32)
  else
    (if x3 = 0 then
      dvI (100 : Int32) <|
      rt (v1 / (100 : Int32))
    else
      dvI (100 : Int32) <|
      rt (v1 - v1 / (100 : Int32) * (100 : Int32))))
set_option maxRecDepth 4000 in
theorem e_s_R_game_99 (f_R_goodTaking : Int32 → Int32 → M Int32) (f_R_isIn : Int32 → Int32 → Int32 → M Int32) (x1 : Int32) (x2 : Int32) (x3 : Int32) : wf (β := Int32) L X q_R_game 1 (cs_R_game f_R_goodTaking f_R_isIn) [4] [42, 51, 93, 99] (fun _ _ _ => fl) (fun v => match v with | some (_, .int x) => rt x | _ => fl) 79 99 [(112, .ref 207), (0, .int x1), (0, .int x2), (0, .int x3), (0, dV), (0, dV)] [] = (bn (f_R_goodTaking x1 x2) fun v1 =>
  (if v1 = (-1 : Int32) then
    rt (-1 : Int32)
  else
    (if x3 = 0 then
      dvI (100 : Int32) <|
      rt (v1 / (100 : Int32))
    else
      dvI (100 : Int32) <|
      rt (v1 - v1 / (100 : Int32) * (100 : Int32))))) := rfl
theorem s_R_game_99 {d : Nat} (hcs : AllS L X d (cs_R_game F_R_goodTaking F_R_isIn)) (x1 : Int32) (x2 : Int32) (x3 : Int32) {o : Option Value × PH} {Q : (Int32) → MI → Prop} (q0 : ∀ v I, Q v I → o = (some (.int v), HH I)) (I : MI) (r : Int32) (I1 : MI) (h : K_R_game_99 x1 x2 x3 I = some (r, I1)) (hq : Q r I1) : At L X (d + 1) 322 99 [(112, .ref 207), (0, .int x1), (0, .int x2), (0, .int x3), (0, dV), (0, dV)] [] I o := by
  refine wf_ok z_R_game hcs ?_ ?_ _ _ _ _ _ ⟨rfl, trivial, trivial, trivial, trivial, trivial, trivial⟩ trivial (unm_refl _ _) ((congrFun (e_s_R_game_99 (L := L) (X := X) F_R_goodTaking F_R_isIn x1 x2 x3) I).trans h)
  · intro pc ls st I2 h1 h2 h3 h
    cases h
  · intro v I2 _ h
    split at h
    · cases h; exact q0 _ _ hq
    · cases h
def K_R_game_42 (x1 : Int32) (x2 : Int32) (x3 : Int32) (x4 : Int32) : M (Int32) :=
  bn (lp (B_R_game_42 x1 x2 x3) FU x4) fun e => K_R_game_99 x1 x2 x3
theorem s_R_game_42 {d : Nat} (hcs : AllS L X d (cs_R_game F_R_goodTaking F_R_isIn)) (x1 : Int32) (x2 : Int32) (x3 : Int32) (x4 : Int32) {o : Option Value × PH} {Q : (Int32) → MI → Prop} (q0 : ∀ v I, Q v I → o = (some (.int v), HH I)) (I : MI) (r : Int32) (I1 : MI) (h : K_R_game_42 x1 x2 x3 x4 I = some (r, I1)) (hq : Q r I1) : At L X (d + 1) 322 42 [(112, .ref 207), (0, .int x1), (0, .int x2), (0, .int x3), (0, .int x4), (0, dV)] [] I o := by
  unfold K_R_game_42 at h
  obtain ⟨e, I2, h1, h2⟩ := bn_some h
  have w0 := fun w => at_lp (body := B_R_game_42 x1 x2 x3) (P := (fun (y : Int32) I => At L X (d + 1) 322 42 [(112, .ref 207), (0, .int x1), (0, .int x2), (0, .int x3), (0, .int y), (0, dV)] [] I o)) (Q := (fun (e : (Unit)) I => (K_R_game_99 x1 x2 x3) I = some (r, I1))) w FU x4 I e I2 h1 h2
  refine w0 ?_
  intro y I r2 I3 h hq2
  exact b_R_game_42 hcs x1 x2 x3 (Q := SQ (fun (y : Int32) I => At L X (d + 1) 322 42 [(112, .ref 207), (0, .int x1), (0, .int x2), (0, .int x3), (0, .int y), (0, dV)] [] I o) (fun (e : (Unit)) I => (K_R_game_99 x1 x2 x3) I = some (r, I1))) (fun _ _ w => w) (fun y I w => s_R_game_99 hcs x1 x2 x3 q0 _ _ _ w hq) y I r2 I3 h hq2
def F_R_game (x1 : Int32) (x2 : Int32) (x3 : Int32) : M (Int32) :=
  bn (wr 207 0 (0 : Int32)) fun _ =>
  bn (F_R_isIn x1 (0 : Int32) (40 : Int32)) fun v1 =>
  (if v1 = 0 then
    rt (-1 : Int32)
  else
    bn (F_R_isIn x2 (0 : Int32) (40 : Int32)) fun v2 =>
    (if v2 = 0 then
      rt (-1 : Int32)
    else
      bn (F_R_isIn x3 (0 : Int32) (1 : Int32)) fun v3 =>
      (if v3 = 0 then
        rt (-1 : Int32)
      else
        K_R_game_42 x1 x2 x3 (0 : Int32))))
set_option maxRecDepth 4000 in
theorem e_s_R_game_0 (f_R_goodTaking : Int32 → Int32 → M Int32) (f_R_isIn : Int32 → Int32 → Int32 → M Int32) (k_42 : Int32 → Int32 → Int32 → Int32 → M (Int32)) (x1 : Int32) (x2 : Int32) (x3 : Int32) : wf (β := Int32) L X q_R_game 1 (cs_R_game f_R_goodTaking f_R_isIn) [4] [42, 51, 93, 99] (fun pc ls st => mC (Nat.beq pc 42) (mN st <| gI ls 4 fun a4 => gD ls 5 <| k_42 x1 x2 x3 a4) (fl)) (fun v => match v with | some (_, .int x) => rt x | _ => fl) 79 0 [(112, .ref 207), (0, .int x1), (0, .int x2), (0, .int x3), (0, dV), (0, dV)] [] = (bn (wr 207 0 (0 : Int32)) fun _ =>
  bn (f_R_isIn x1 (0 : Int32) (40 : Int32)) fun v1 =>
  (if v1 = 0 then
    rt (-1 : Int32)
  else
    bn (f_R_isIn x2 (0 : Int32) (40 : Int32)) fun v2 =>
    (if v2 = 0 then
      rt (-1 : Int32)
    else
      bn (f_R_isIn x3 (0 : Int32) (1 : Int32)) fun v3 =>
      (if v3 = 0 then
        rt (-1 : Int32)
      else
        k_42 x1 x2 x3 (0 : Int32))))) := rfl
theorem s_R_game_0 {d : Nat} (hcs : AllS L X d (cs_R_game F_R_goodTaking F_R_isIn)) (x1 : Int32) (x2 : Int32) (x3 : Int32) {o : Option Value × PH} {Q : (Int32) → MI → Prop} (q0 : ∀ v I, Q v I → o = (some (.int v), HH I)) (I : MI) (r : Int32) (I1 : MI) (h : F_R_game x1 x2 x3 I = some (r, I1)) (hq : Q r I1) : At L X (d + 1) 322 0 [(112, .ref 207), (0, .int x1), (0, .int x2), (0, .int x3), (0, dV), (0, dV)] [] I o := by
  refine wf_ok z_R_game hcs ?_ ?_ _ _ _ _ _ ⟨rfl, trivial, trivial, trivial, trivial, trivial, trivial⟩ trivial (unm_refl _ _) ((congrFun (e_s_R_game_0 (L := L) (X := X) F_R_goodTaking F_R_isIn K_R_game_42 x1 x2 x3) I).trans h)
  · intro pc ls st I2 h1 h2 h3 h
    rcases mC_ok h with ⟨hb, h⟩ | ⟨_, h⟩
    · have e := Nat.eq_of_beq_eq_true hb
      subst e
      obtain ⟨hst, h⟩ := mN_ok h
      subst hst
      obtain ⟨a4, n4, h⟩ := gI_ok h
      obtain ⟨n5, h⟩ := gD_ok h
      refine at_leaf (ls2 := [(112, .ref 207), (0, .int x1), (0, .int x2), (0, .int x3), (0, .int a4), (0, dV)]) h3.1 ⟨Or.inr ⟨_, (h3.2 0 rfl).trans rfl⟩, Or.inr ⟨_, (h3.2 1 rfl).trans rfl⟩, Or.inr ⟨_, (h3.2 2 rfl).trans rfl⟩, Or.inr ⟨_, (h3.2 3 rfl).trans rfl⟩, Or.inr n4, Or.inl ⟨rfl, n5⟩, trivial⟩ ?_
      exact s_R_game_42 hcs x1 x2 x3 a4 q0 _ _ _ h hq
    cases h
  · intro v I2 _ h
    split at h
    · cases h; exact q0 _ _ hq
    · cases h
theorem w_R_game {d : Nat} (hcs : AllS L X d (cs_R_game F_R_goodTaking F_R_isIn)) : Snd L X (d + 1) 322 4 (W_R_game F_R_game) := by
  refine ⟨_, z_R_game, rfl, fun β args k I r hty hlen h => ?_⟩
  unfold W_R_game at h
  split at h
  · rename_i t0 a0 u1 a1 u2 a2 u3 a3
    obtain ⟨hb0, h⟩ := mB_ok h
    have e0 := Nat.eq_of_beq_eq_true hb0
    have g0 : okB 112 a0 = true := e0 ▸ hty.1
    have e20 := one_112 g0
    subst e20
    obtain ⟨v, I1, h1, h2⟩ := bn_some h
    refine ⟨gf_obj (c := 12) (by decide) g0, rfl, some (0, .int v), I1, trivial, ?_, h2⟩
    exact s_R_game_0 hcs a1 a2 a3  (Q := fun w I => w = v ∧ I = I1) (fun w I q => by obtain ⟨rfl, rfl⟩ := q; rfl) I v I1 h1 ⟨rfl, rfl⟩
  · cases h
theorem S_R_game {d : Nat} (hd : 3 ≤ d) : Snd L X d 322 4 (W_R_game F_R_game) := by
  obtain ⟨e, rfl⟩ : ∃ e, d = e + 1 := ⟨d - 1, by omega⟩
  exact w_R_game ⟨S_R_goodTaking (by omega), S_R_isIn (by omega), trivial⟩
set_option maxRecDepth 100000 in
theorem z_R_endsThought : pT[279]? = some (q_R_endsThought, 1, 2, 0, 12) := rfl
def W_R_endsThought (F : M Unit) : CSem := fun _ args k => match args with
  | [(t0, .ref a0)] => mB (Nat.beq t0 112) <| bn (F) fun _ => k none
  | _ => fl
def cs_R_endsThought : List (Nat × Nat × CSem) := []
def B_R_endsThought_2 (y : Int32) : M ((Int32) ⊕ (Unit)) :=
  (if y < (95 : Int32) then
    bn (ld 95 210 y) fun v1 =>
    bn (sr 95 208 y v1) fun _ =>
    rt (.inl (y + (1 : Int32)))
  else
    bn (wrZ 207 5 (0 : Int32)) fun _ =>
    rt (.inr ()))
set_option maxRecDepth 4000 in
theorem e_b_R_endsThought_2 (y : Int32) : wf (β := (Int32) ⊕ (Unit)) L X q_R_endsThought 0 cs_R_endsThought [1] [2] (fun pc ls st => mC (Nat.beq pc 2) (mN st <| gI ls 1 fun a1 => rt (.inl a1)) (fl)) (fun v => match v with | none => rt (.inr ()) | _ => fl) 24 2 [(112, .ref 207), (0, .int y)] [] = ((if y < (95 : Int32) then
    bn (ld 95 210 y) fun v1 =>
    bn (sr 95 208 y v1) fun _ =>
    rt (.inl (y + (1 : Int32)))
  else
    bn (wrZ 207 5 (0 : Int32)) fun _ =>
    rt (.inr ()))) := rfl
theorem b_R_endsThought_2 {d : Nat} (hcs : AllS L X d cs_R_endsThought) {o : Option Value × PH} {Q : ((Int32) ⊕ (Unit)) → MI → Prop} (qb : ∀ y I, Q (.inl y) I → At L X (d + 1) 279 2 [(112, .ref 207), (0, .int y)] [] I o) (qr : ∀ v I, Q (.inr v) I → o = (none, HH I)) (y : Int32) (I : MI) (r : (Int32) ⊕ (Unit)) (I1 : MI) (h : B_R_endsThought_2 y I = some (r, I1)) (hq : Q r I1) : At L X (d + 1) 279 2 [(112, .ref 207), (0, .int y)] [] I o := by
  refine wf_ok z_R_endsThought hcs ?_ ?_ _ _ _ _ _ ⟨rfl, trivial, trivial⟩ trivial (unm_refl _ _) ((congrFun (e_b_R_endsThought_2 (L := L) (X := X) y) I).trans h)
  · intro pc ls st I2 h1 h2 h3 h
    rcases mC_ok h with ⟨hb, h⟩ | ⟨_, h⟩
    · have e := Nat.eq_of_beq_eq_true hb
      subst e
      obtain ⟨hst, h⟩ := mN_ok h
      subst hst
      obtain ⟨a1, n1, h⟩ := gI_ok h
      refine at_leaf (ls2 := [(112, .ref 207), (0, .int a1)]) h3.1 ⟨Or.inr ⟨_, (h3.2 0 rfl).trans rfl⟩, Or.inr n1, trivial⟩ ?_
      cases h; exact qb _ _ hq
    cases h
  · intro v I2 _ h
    split at h
    · cases h; exact qr _ _ hq
    · cases h
def K_R_endsThought_2 (x1 : Int32) : M (Unit) :=
  lp (B_R_endsThought_2) FU x1
theorem s_R_endsThought_2 {d : Nat} (hcs : AllS L X d cs_R_endsThought) (x1 : Int32) {o : Option Value × PH} {Q : (Unit) → MI → Prop} (q0 : ∀ v I, Q v I → o = (none, HH I)) (I : MI) (r : Unit) (I1 : MI) (h : K_R_endsThought_2 x1 I = some (r, I1)) (hq : Q r I1) : At L X (d + 1) 279 2 [(112, .ref 207), (0, .int x1)] [] I o := by
  unfold K_R_endsThought_2 at h
  have w0 := fun w => at_lp (body := B_R_endsThought_2) (P := (fun (y : Int32) I => At L X (d + 1) 279 2 [(112, .ref 207), (0, .int y)] [] I o)) (Q := (fun (e : Unit) I => Q e I)) w FU x1 I r I1 h hq
  refine w0 ?_
  intro y I r I1 h hq
  exact b_R_endsThought_2 hcs (Q := SQ (fun (y : Int32) I => At L X (d + 1) 279 2 [(112, .ref 207), (0, .int y)] [] I o) (fun (e : Unit) I => Q e I)) (fun _ _ w => w) q0 y I r I1 h hq
def F_R_endsThought : M (Unit) :=
  K_R_endsThought_2 (0 : Int32)
set_option maxRecDepth 4000 in
theorem e_s_R_endsThought_0 (k_2 : Int32 → M (Unit)) : wf (β := Unit) L X q_R_endsThought 0 cs_R_endsThought [1] [2] (fun pc ls st => mC (Nat.beq pc 2) (mN st <| gI ls 1 fun a1 => k_2 a1) (fl)) (fun v => match v with | none => rt () | _ => fl) 24 0 [(112, .ref 207), (0, dV)] [] = (k_2 (0 : Int32)) := rfl
theorem s_R_endsThought_0 {d : Nat} (hcs : AllS L X d cs_R_endsThought) {o : Option Value × PH} {Q : (Unit) → MI → Prop} (q0 : ∀ v I, Q v I → o = (none, HH I)) (I : MI) (r : Unit) (I1 : MI) (h : F_R_endsThought I = some (r, I1)) (hq : Q r I1) : At L X (d + 1) 279 0 [(112, .ref 207), (0, dV)] [] I o := by
  refine wf_ok z_R_endsThought hcs ?_ ?_ _ _ _ _ _ ⟨rfl, trivial, trivial⟩ trivial (unm_refl _ _) ((congrFun (e_s_R_endsThought_0 (L := L) (X := X) K_R_endsThought_2) I).trans h)
  · intro pc ls st I2 h1 h2 h3 h
    rcases mC_ok h with ⟨hb, h⟩ | ⟨_, h⟩
    · have e := Nat.eq_of_beq_eq_true hb
      subst e
      obtain ⟨hst, h⟩ := mN_ok h
      subst hst
      obtain ⟨a1, n1, h⟩ := gI_ok h
      refine at_leaf (ls2 := [(112, .ref 207), (0, .int a1)]) h3.1 ⟨Or.inr ⟨_, (h3.2 0 rfl).trans rfl⟩, Or.inr n1, trivial⟩ ?_
      exact s_R_endsThought_2 hcs a1 q0 _ _ _ h hq
    cases h
  · intro v I2 _ h
    split at h
    · cases h; exact q0 _ _ hq
    · cases h
theorem w_R_endsThought {d : Nat} (hcs : AllS L X d cs_R_endsThought) : Snd L X (d + 1) 279 1 (W_R_endsThought F_R_endsThought) := by
  refine ⟨_, z_R_endsThought, rfl, fun β args k I r hty hlen h => ?_⟩
  unfold W_R_endsThought at h
  split at h
  · rename_i t0 a0
    obtain ⟨hb0, h⟩ := mB_ok h
    have e0 := Nat.eq_of_beq_eq_true hb0
    have g0 : okB 112 a0 = true := e0 ▸ hty.1
    have e20 := one_112 g0
    subst e20
    obtain ⟨v, I1, h1, h2⟩ := bn_some h
    refine ⟨gf_obj (c := 12) (by decide) g0, rfl, none, I1, trivial, ?_, h2⟩
    exact s_R_endsThought_0 hcs   (Q := fun w I => w = v ∧ I = I1) (fun w I q => by obtain ⟨rfl, rfl⟩ := q; rfl) I v I1 h1 ⟨rfl, rfl⟩
  · cases h
theorem S_R_endsThought {d : Nat} (hd : 1 ≤ d) : Snd L X d 279 1 (W_R_endsThought F_R_endsThought) := by
  obtain ⟨e, rfl⟩ : ∃ e, d = e + 1 := ⟨d - 1, by omega⟩
  exact w_R_endsThought trivial
set_option maxRecDepth 100000 in
theorem z_R_bySharesOf : pT[250]? = some (q_R_bySharesOf, 2, 4, 0, 12) := rfl
def W_R_bySharesOf (F : Int32 → M Unit) : CSem := fun _ args k => match args with
  | [(t0, .ref a0), (_, .int a1)] => mB (Nat.beq t0 112) <| bn (F a1) fun _ => k none
  | _ => fl
def cs_R_bySharesOf (f_R_goesHome : Int32 → M Unit) (f_R_goesOut : Int32 → Int32 → M Unit) (f_R_isIn : Int32 → Int32 → Int32 → M Int32) : List (Nat × Nat × CSem) := [(249, 2, W_R_goesHome f_R_goesHome), (247, 3, W_R_goesOut f_R_goesOut), (195, 4, W_R_isIn f_R_isIn)]
def B_R_bySharesOf_4 (x1 : Int32) (y : Int32 × Int32) : M ((Int32 × Int32) ⊕ ((Int32) ⊕ Unit)) :=
  bn (rd 207 36) fun v1 =>
  (if y.2 < ((4 : Int32) * v1) then
    bn (ld 128 226 y.2) fun v2 =>
    (if v2 = x1 then
      bn (ld 95 208 (1 : Int32)) fun v3 =>
      bn (ld 128 226 (y.2 + (1 : Int32))) fun v4 =>
      bn (ld 128 226 (y.2 + (2 : Int32))) fun v5 =>
      bn (F_R_isIn v3 v4 v5) fun v6 =>
      (if v6 = 0 then
        rt (.inl ((1 : Int32), (y.2 + (4 : Int32))))
      else
        bn (ld 128 226 (y.2 + (3 : Int32))) fun v7 =>
        bn (F_R_goesOut x1 v7) fun _ =>
        rt (.inr (.inr ())))
    else
      rt (.inl (y.1, (y.2 + (4 : Int32)))))
  else
    rt (.inr (.inl y.1)))
set_option maxRecDepth 4000 in
theorem e_b_R_bySharesOf_4 (f_R_goesHome : Int32 → M Unit) (f_R_goesOut : Int32 → Int32 → M Unit) (f_R_isIn : Int32 → Int32 → Int32 → M Int32) (x1 : Int32) (y : Int32 × Int32) : wf (β := (Int32 × Int32) ⊕ ((Int32) ⊕ Unit)) L X q_R_bySharesOf 0 (cs_R_bySharesOf f_R_goesHome f_R_goesOut f_R_isIn) [2, 3] [4, 82] (fun pc ls st => mC (Nat.beq pc 4) (mN st <| gI ls 2 fun a2 => gI ls 3 fun a3 => rt (.inl (a2, a3))) (mC (Nat.beq pc 82) (mN st <| gI ls 2 fun a2 => gD ls 3 <| rt (.inr (.inl a2))) (fl))) (fun v => match v with | none => rt (.inr (.inr ())) | _ => fl) 65 4 [(112, .ref 207), (0, .int x1), (0, .int y.1), (0, .int y.2)] [] = (bn (rd 207 36) fun v1 =>
  (if y.2 < ((4 : Int32) * v1) then
    bn (ld 128 226 y.2) fun v2 =>
    (if v2 = x1 then
      bn (ld 95 208 (1 : Int32)) fun v3 =>
      bn (ld 128 226 (y.2 + (1 : Int32))) fun v4 =>
      bn (ld 128 226 (y.2 + (2 : Int32))) fun v5 =>
      bn (f_R_isIn v3 v4 v5) fun v6 =>
      (if v6 = 0 then
        rt (.inl ((1 : Int32), (y.2 + (4 : Int32))))
      else
        bn (ld 128 226 (y.2 + (3 : Int32))) fun v7 =>
        bn (f_R_goesOut x1 v7) fun _ =>
        rt (.inr (.inr ())))
    else
      rt (.inl (y.1, (y.2 + (4 : Int32)))))
  else
    rt (.inr (.inl y.1)))) := rfl
theorem b_R_bySharesOf_4 {d : Nat} (hcs : AllS L X d (cs_R_bySharesOf F_R_goesHome F_R_goesOut F_R_isIn)) (x1 : Int32) {o : Option Value × PH} {Q : ((Int32 × Int32) ⊕ ((Int32) ⊕ Unit)) → MI → Prop} (qb : ∀ y I, Q (.inl y) I → At L X (d + 1) 250 4 [(112, .ref 207), (0, .int x1), (0, .int y.1), (0, .int y.2)] [] I o) (qe82 : ∀ y I, Q (.inr (.inl y)) I → At L X (d + 1) 250 82 [(112, .ref 207), (0, .int x1), (0, .int y), (0, dV)] [] I o) (qr : ∀ v I, Q (.inr (.inr v)) I → o = (none, HH I)) (y : Int32 × Int32) (I : MI) (r : (Int32 × Int32) ⊕ ((Int32) ⊕ Unit)) (I1 : MI) (h : B_R_bySharesOf_4 x1 y I = some (r, I1)) (hq : Q r I1) : At L X (d + 1) 250 4 [(112, .ref 207), (0, .int x1), (0, .int y.1), (0, .int y.2)] [] I o := by
  refine wf_ok z_R_bySharesOf hcs ?_ ?_ _ _ _ _ _ ⟨rfl, trivial, trivial, trivial, trivial⟩ trivial (unm_refl _ _) ((congrFun (e_b_R_bySharesOf_4 (L := L) (X := X) F_R_goesHome F_R_goesOut F_R_isIn x1 y) I).trans h)
  · intro pc ls st I2 h1 h2 h3 h
    rcases mC_ok h with ⟨hb, h⟩ | ⟨_, h⟩
    · have e := Nat.eq_of_beq_eq_true hb
      subst e
      obtain ⟨hst, h⟩ := mN_ok h
      subst hst
      obtain ⟨a2, n2, h⟩ := gI_ok h
      obtain ⟨a3, n3, h⟩ := gI_ok h
      refine at_leaf (ls2 := [(112, .ref 207), (0, .int x1), (0, .int a2), (0, .int a3)]) h3.1 ⟨Or.inr ⟨_, (h3.2 0 rfl).trans rfl⟩, Or.inr ⟨_, (h3.2 1 rfl).trans rfl⟩, Or.inr n2, Or.inr n3, trivial⟩ ?_
      cases h; exact qb _ _ hq
    rcases mC_ok h with ⟨hb, h⟩ | ⟨_, h⟩
    · have e := Nat.eq_of_beq_eq_true hb
      subst e
      obtain ⟨hst, h⟩ := mN_ok h
      subst hst
      obtain ⟨a2, n2, h⟩ := gI_ok h
      obtain ⟨n3, h⟩ := gD_ok h
      refine at_leaf (ls2 := [(112, .ref 207), (0, .int x1), (0, .int a2), (0, dV)]) h3.1 ⟨Or.inr ⟨_, (h3.2 0 rfl).trans rfl⟩, Or.inr ⟨_, (h3.2 1 rfl).trans rfl⟩, Or.inr n2, Or.inl ⟨rfl, n3⟩, trivial⟩ ?_
      cases h; exact qe82 _ _ hq
    cases h
  · intro v I2 _ h
    split at h
    · cases h; exact qr _ _ hq
    · cases h
def K_R_bySharesOf_82 (x1 : Int32) (x2 : Int32) : M (Unit) :=
  (if x2 = 0 then
    rt ()
  else
    bn (F_R_goesHome x1) fun _ =>
    rt ())
set_option maxRecDepth 4000 in
theorem e_s_R_bySharesOf_82 (f_R_goesHome : Int32 → M Unit) (f_R_goesOut : Int32 → Int32 → M Unit) (f_R_isIn : Int32 → Int32 → Int32 → M Int32) (x1 : Int32) (x2 : Int32) : wf (β := Unit) L X q_R_bySharesOf 0 (cs_R_bySharesOf f_R_goesHome f_R_goesOut f_R_isIn) [] [4, 82] (fun _ _ _ => fl) (fun v => match v with | none => rt () | _ => fl) 65 82 [(112, .ref 207), (0, .int x1), (0, .int x2), (0, dV)] [] = ((if x2 = 0 then
    rt ()
  else
    bn (f_R_goesHome x1) fun _ =>
    rt ())) := rfl
theorem s_R_bySharesOf_82 {d : Nat} (hcs : AllS L X d (cs_R_bySharesOf F_R_goesHome F_R_goesOut F_R_isIn)) (x1 : Int32) (x2 : Int32) {o : Option Value × PH} {Q : (Unit) → MI → Prop} (q0 : ∀ v I, Q v I → o = (none, HH I)) (I : MI) (r : Unit) (I1 : MI) (h : K_R_bySharesOf_82 x1 x2 I = some (r, I1)) (hq : Q r I1) : At L X (d + 1) 250 82 [(112, .ref 207), (0, .int x1), (0, .int x2), (0, dV)] [] I o := by
  refine wf_ok z_R_bySharesOf hcs ?_ ?_ _ _ _ _ _ ⟨rfl, trivial, trivial, trivial, trivial⟩ trivial (unm_refl _ _) ((congrFun (e_s_R_bySharesOf_82 (L := L) (X := X) F_R_goesHome F_R_goesOut F_R_isIn x1 x2) I).trans h)
  · intro pc ls st I2 h1 h2 h3 h
    cases h
  · intro v I2 _ h
    split at h
    · cases h; exact q0 _ _ hq
    · cases h
def K_R_bySharesOf_4 (x1 : Int32) (x2 : Int32) (x3 : Int32) : M (Unit) :=
  bn (lp (B_R_bySharesOf_4 x1) FU (x2, x3)) fun e => match e with
  | .inl e => K_R_bySharesOf_82 x1 e
  | .inr e => rt e
theorem s_R_bySharesOf_4 {d : Nat} (hcs : AllS L X d (cs_R_bySharesOf F_R_goesHome F_R_goesOut F_R_isIn)) (x1 : Int32) (x2 : Int32) (x3 : Int32) {o : Option Value × PH} {Q : (Unit) → MI → Prop} (q0 : ∀ v I, Q v I → o = (none, HH I)) (I : MI) (r : Unit) (I1 : MI) (h : K_R_bySharesOf_4 x1 x2 x3 I = some (r, I1)) (hq : Q r I1) : At L X (d + 1) 250 4 [(112, .ref 207), (0, .int x1), (0, .int x2), (0, .int x3)] [] I o := by
  unfold K_R_bySharesOf_4 at h
  obtain ⟨e, I2, h1, h2⟩ := bn_some h
  have w0 := fun w => at_lp (body := B_R_bySharesOf_4 x1) (P := (fun (y : Int32 × Int32) I => At L X (d + 1) 250 4 [(112, .ref 207), (0, .int x1), (0, .int y.1), (0, .int y.2)] [] I o)) (Q := (fun (e : (Int32) ⊕ Unit) I => (match e with | .inl e => K_R_bySharesOf_82 x1 e | .inr e => rt e : M (Unit)) I = some (r, I1))) w FU (x2, x3) I e I2 h1 h2
  refine w0 ?_
  intro y I r2 I3 h hq2
  exact b_R_bySharesOf_4 hcs x1 (Q := SQ (fun (y : Int32 × Int32) I => At L X (d + 1) 250 4 [(112, .ref 207), (0, .int x1), (0, .int y.1), (0, .int y.2)] [] I o) (fun (e : (Int32) ⊕ Unit) I => (match e with | .inl e => K_R_bySharesOf_82 x1 e | .inr e => rt e : M (Unit)) I = some (r, I1))) (fun _ _ w => w) (fun y I w => s_R_bySharesOf_82 hcs x1 y q0 _ _ _ w hq) (fun v I w => by cases w; exact q0 _ _ hq) y I r2 I3 h hq2
def F_R_bySharesOf (x1 : Int32) : M (Unit) :=
  K_R_bySharesOf_4 x1 (0 : Int32) (0 : Int32)
set_option maxRecDepth 4000 in
theorem e_s_R_bySharesOf_0 (f_R_goesHome : Int32 → M Unit) (f_R_goesOut : Int32 → Int32 → M Unit) (f_R_isIn : Int32 → Int32 → Int32 → M Int32) (k_4 : Int32 → Int32 → Int32 → M (Unit)) (x1 : Int32) : wf (β := Unit) L X q_R_bySharesOf 0 (cs_R_bySharesOf f_R_goesHome f_R_goesOut f_R_isIn) [2, 3] [4, 82] (fun pc ls st => mC (Nat.beq pc 4) (mN st <| gI ls 2 fun a2 => gI ls 3 fun a3 => k_4 x1 a2 a3) (fl)) (fun v => match v with | none => rt () | _ => fl) 65 0 [(112, .ref 207), (0, .int x1), (0, dV), (0, dV)] [] = (k_4 x1 (0 : Int32) (0 : Int32)) := rfl
theorem s_R_bySharesOf_0 {d : Nat} (hcs : AllS L X d (cs_R_bySharesOf F_R_goesHome F_R_goesOut F_R_isIn)) (x1 : Int32) {o : Option Value × PH} {Q : (Unit) → MI → Prop} (q0 : ∀ v I, Q v I → o = (none, HH I)) (I : MI) (r : Unit) (I1 : MI) (h : F_R_bySharesOf x1 I = some (r, I1)) (hq : Q r I1) : At L X (d + 1) 250 0 [(112, .ref 207), (0, .int x1), (0, dV), (0, dV)] [] I o := by
  refine wf_ok z_R_bySharesOf hcs ?_ ?_ _ _ _ _ _ ⟨rfl, trivial, trivial, trivial, trivial⟩ trivial (unm_refl _ _) ((congrFun (e_s_R_bySharesOf_0 (L := L) (X := X) F_R_goesHome F_R_goesOut F_R_isIn K_R_bySharesOf_4 x1) I).trans h)
  · intro pc ls st I2 h1 h2 h3 h
    rcases mC_ok h with ⟨hb, h⟩ | ⟨_, h⟩
    · have e := Nat.eq_of_beq_eq_true hb
      subst e
      obtain ⟨hst, h⟩ := mN_ok h
      subst hst
      obtain ⟨a2, n2, h⟩ := gI_ok h
      obtain ⟨a3, n3, h⟩ := gI_ok h
      refine at_leaf (ls2 := [(112, .ref 207), (0, .int x1), (0, .int a2), (0, .int a3)]) h3.1 ⟨Or.inr ⟨_, (h3.2 0 rfl).trans rfl⟩, Or.inr ⟨_, (h3.2 1 rfl).trans rfl⟩, Or.inr n2, Or.inr n3, trivial⟩ ?_
      exact s_R_bySharesOf_4 hcs x1 a2 a3 q0 _ _ _ h hq
    cases h
  · intro v I2 _ h
    split at h
    · cases h; exact q0 _ _ hq
    · cases h
theorem w_R_bySharesOf {d : Nat} (hcs : AllS L X d (cs_R_bySharesOf F_R_goesHome F_R_goesOut F_R_isIn)) : Snd L X (d + 1) 250 2 (W_R_bySharesOf F_R_bySharesOf) := by
  refine ⟨_, z_R_bySharesOf, rfl, fun β args k I r hty hlen h => ?_⟩
  unfold W_R_bySharesOf at h
  split at h
  · rename_i t0 a0 u1 a1
    obtain ⟨hb0, h⟩ := mB_ok h
    have e0 := Nat.eq_of_beq_eq_true hb0
    have g0 : okB 112 a0 = true := e0 ▸ hty.1
    have e20 := one_112 g0
    subst e20
    obtain ⟨v, I1, h1, h2⟩ := bn_some h
    refine ⟨gf_obj (c := 12) (by decide) g0, rfl, none, I1, trivial, ?_, h2⟩
    exact s_R_bySharesOf_0 hcs a1  (Q := fun w I => w = v ∧ I = I1) (fun w I q => by obtain ⟨rfl, rfl⟩ := q; rfl) I v I1 h1 ⟨rfl, rfl⟩
  · cases h
theorem S_R_bySharesOf {d : Nat} (hd : 2 ≤ d) : Snd L X d 250 2 (W_R_bySharesOf F_R_bySharesOf) := by
  obtain ⟨e, rfl⟩ : ∃ e, d = e + 1 := ⟨d - 1, by omega⟩
  exact w_R_bySharesOf ⟨S_R_goesHome (by omega), S_R_goesOut (by omega), S_R_isIn (by omega), trivial⟩
set_option maxRecDepth 100000 in
theorem z_R_cousinsOf : pT[251]? = some (q_R_cousinsOf, 2, 4, 0, 12) := rfl
def W_R_cousinsOf (F : Int32 → M Unit) : CSem := fun _ args k => match args with
  | [(t0, .ref a0), (_, .int a1)] => mB (Nat.beq t0 112) <| bn (F a1) fun _ => k none
  | _ => fl
def cs_R_cousinsOf (f_R_isOut : Int32 → M Int32) (f_R_writes : Int32 → Int32 → Int32 → M Unit) : List (Nat × Nat × CSem) := [(252, 2, W_R_isOut f_R_isOut), (253, 4, W_R_writes f_R_writes)]
def B_R_cousinsOf_4 (x1 : Int32) (y : Int32 × Int32) : M ((Int32 × Int32) ⊕ ((Int32))) :=
  bn (rd 207 7) fun v1 =>
  (if y.2 < v1 then
    bn (ld 18 212 y.2) fun v2 =>
    (if v2 = x1 then
      bn (F_R_isOut y.2) fun v3 =>
      (if v3 = 0 then
        rt (.inl (y.1, (y.2 + (1 : Int32))))
      else
        (if y.1 = (-1 : Int32) then
          rt (.inl (y.2, (y.2 + (1 : Int32))))
        else
          bn (ld 18 213 y.2) fun v4 =>
          bn (ld 18 213 y.1) fun v5 =>
          (if v5 < v4 then
            rt (.inl (y.2, (y.2 + (1 : Int32))))
          else
            rt (.inl (y.1, (y.2 + (1 : Int32)))))))
    else
      rt (.inl (y.1, (y.2 + (1 : Int32)))))
  else
    rt (.inr y.1))
set_option maxRecDepth 4000 in
theorem e_b_R_cousinsOf_4 (f_R_isOut : Int32 → M Int32) (f_R_writes : Int32 → Int32 → Int32 → M Unit) (x1 : Int32) (y : Int32 × Int32) : wf (β := (Int32 × Int32) ⊕ ((Int32))) L X q_R_cousinsOf 0 (cs_R_cousinsOf f_R_isOut f_R_writes) [2, 3] [4, 58, 60] (fun pc ls st => mC (Nat.beq pc 4) (mN st <| gI ls 2 fun a2 => gI ls 3 fun a3 => rt (.inl (a2, a3))) (mC (Nat.beq pc 58) (mN st <| gI ls 2 fun a2 => gD ls 3 <| rt (.inr a2)) (fl))) (fun _ => fl) 114 4 [(112, .ref 207), (0, .int x1), (0, .int y.1), (0, .int y.2)] [] = (bn (rd 207 7) fun v1 =>
  (if y.2 < v1 then
    bn (ld 18 212 y.2) fun v2 =>
    (if v2 = x1 then
      bn (f_R_isOut y.2) fun v3 =>
      (if v3 = 0 then
        rt (.inl (y.1, (y.2 + (1 : Int32))))
      else
        (if y.1 = (-1 : Int32) then
          rt (.inl (y.2, (y.2 + (1 : Int32))))
        else
          bn (ld 18 213 y.2) fun v4 =>
          bn (ld 18 213 y.1) fun v5 =>
          (if v5 < v4 then
            rt (.inl (y.2, (y.2 + (1 : Int32))))
          else
            rt (.inl (y.1, (y.2 + (1 : Int32)))))))
    else
      rt (.inl (y.1, (y.2 + (1 : Int32)))))
  else
    rt (.inr y.1))) := rfl
theorem b_R_cousinsOf_4 {d : Nat} (hcs : AllS L X d (cs_R_cousinsOf F_R_isOut F_R_writes)) (x1 : Int32) {o : Option Value × PH} {Q : ((Int32 × Int32) ⊕ ((Int32))) → MI → Prop} (qb : ∀ y I, Q (.inl y) I → At L X (d + 1) 251 4 [(112, .ref 207), (0, .int x1), (0, .int y.1), (0, .int y.2)] [] I o) (qe58 : ∀ y I, Q (.inr y) I → At L X (d + 1) 251 58 [(112, .ref 207), (0, .int x1), (0, .int y), (0, dV)] [] I o) (y : Int32 × Int32) (I : MI) (r : (Int32 × Int32) ⊕ ((Int32))) (I1 : MI) (h : B_R_cousinsOf_4 x1 y I = some (r, I1)) (hq : Q r I1) : At L X (d + 1) 251 4 [(112, .ref 207), (0, .int x1), (0, .int y.1), (0, .int y.2)] [] I o := by
  refine wf_ok z_R_cousinsOf hcs ?_ ?_ _ _ _ _ _ ⟨rfl, trivial, trivial, trivial, trivial⟩ trivial (unm_refl _ _) ((congrFun (e_b_R_cousinsOf_4 (L := L) (X := X) F_R_isOut F_R_writes x1 y) I).trans h)
  · intro pc ls st I2 h1 h2 h3 h
    rcases mC_ok h with ⟨hb, h⟩ | ⟨_, h⟩
    · have e := Nat.eq_of_beq_eq_true hb
      subst e
      obtain ⟨hst, h⟩ := mN_ok h
      subst hst
      obtain ⟨a2, n2, h⟩ := gI_ok h
      obtain ⟨a3, n3, h⟩ := gI_ok h
      refine at_leaf (ls2 := [(112, .ref 207), (0, .int x1), (0, .int a2), (0, .int a3)]) h3.1 ⟨Or.inr ⟨_, (h3.2 0 rfl).trans rfl⟩, Or.inr ⟨_, (h3.2 1 rfl).trans rfl⟩, Or.inr n2, Or.inr n3, trivial⟩ ?_
      cases h; exact qb _ _ hq
    rcases mC_ok h with ⟨hb, h⟩ | ⟨_, h⟩
    · have e := Nat.eq_of_beq_eq_true hb
      subst e
      obtain ⟨hst, h⟩ := mN_ok h
      subst hst
      obtain ⟨a2, n2, h⟩ := gI_ok h
      obtain ⟨n3, h⟩ := gD_ok h
      refine at_leaf (ls2 := [(112, .ref 207), (0, .int x1), (0, .int a2), (0, dV)]) h3.1 ⟨Or.inr ⟨_, (h3.2 0 rfl).trans rfl⟩, Or.inr ⟨_, (h3.2 1 rfl).trans rfl⟩, Or.inr n2, Or.inl ⟨rfl, n3⟩, trivial⟩ ?_
      cases h; exact qe58 _ _ hq
    cases h
  · intro v I2 _ h
    cases h
def B_R_cousinsOf_60 (x1 : Int32) (x2 : Int32) (y : Int32) : M ((Int32) ⊕ (Unit)) :=
  bn (rd 207 7) fun v1 =>
  (if y < v1 then
    bn (ld 18 212 y) fun v2 =>
    (if v2 = x1 then
      bn (F_R_isOut y) fun v3 =>
      (if v3 = 0 then
        rt (.inl (y + (1 : Int32)))
      else
        (if y = x2 then
          rt (.inl (y + (1 : Int32)))
        else
          bn (ld 95 208 (5 : Int32)) fun v4 =>
          bn (sr 95 208 (5 : Int32) (v4 + (1 : Int32))) fun _ =>
          bn (ld 95 208 ((17 : Int32) + x1)) fun v5 =>
          (if 0 < v5 then
            bn (ld 95 208 ((17 : Int32) + x1)) fun v8 =>
            bn (sr 95 208 ((17 : Int32) + x1) (v8 - (1 : Int32))) fun _ =>
            bn (ld 95 208 ((23 : Int32) + y)) fun v9 =>
            bn (F_R_writes (2 : Int32) y v9) fun _ =>
            rt (.inl (y + (1 : Int32)))
          else
            bn (ld 95 208 (4 : Int32)) fun v6 =>
            bn (sr 95 208 (4 : Int32) (v6 + (1 : Int32))) fun _ =>
            bn (ld 95 208 ((23 : Int32) + y)) fun v7 =>
            bn (F_R_writes (2 : Int32) y v7) fun _ =>
            rt (.inl (y + (1 : Int32))))))
    else
      rt (.inl (y + (1 : Int32))))
  else
    rt (.inr ()))
set_option maxRecDepth 4000 in
theorem e_b_R_cousinsOf_60 (f_R_isOut : Int32 → M Int32) (f_R_writes : Int32 → Int32 → Int32 → M Unit) (x1 : Int32) (x2 : Int32) (y : Int32) : wf (β := (Int32) ⊕ (Unit)) L X q_R_cousinsOf 0 (cs_R_cousinsOf f_R_isOut f_R_writes) [3] [4, 58, 60] (fun pc ls st => mC (Nat.beq pc 60) (mN st <| gI ls 3 fun a3 => rt (.inl a3)) (fl)) (fun v => match v with | none => rt (.inr ()) | _ => fl) 114 60 [(112, .ref 207), (0, .int x1), (0, .int x2), (0, .int y)] [] = (bn (rd 207 7) fun v1 =>
  (if y < v1 then
    bn (ld 18 212 y) fun v2 =>
    (if v2 = x1 then
      bn (f_R_isOut y) fun v3 =>
      (if v3 = 0 then
        rt (.inl (y + (1 : Int32)))
      else
        (if y = x2 then
          rt (.inl (y + (1 : Int32)))
        else
          bn (ld 95 208 (5 : Int32)) fun v4 =>
          bn (sr 95 208 (5 : Int32) (v4 + (1 : Int32))) fun _ =>
          bn (ld 95 208 ((17 : Int32) + x1)) fun v5 =>
          (if 0 < v5 then
            bn (ld 95 208 ((17 : Int32) + x1)) fun v8 =>
            bn (sr 95 208 ((17 : Int32) + x1) (v8 - (1 : Int32))) fun _ =>
            bn (ld 95 208 ((23 : Int32) + y)) fun v9 =>
            bn (f_R_writes (2 : Int32) y v9) fun _ =>
            rt (.inl (y + (1 : Int32)))
          else
            bn (ld 95 208 (4 : Int32)) fun v6 =>
            bn (sr 95 208 (4 : Int32) (v6 + (1 : Int32))) fun _ =>
            bn (ld 95 208 ((23 : Int32) + y)) fun v7 =>
            bn (f_R_writes (2 : Int32) y v7) fun _ =>
            rt (.inl (y + (1 : Int32))))))
    else
      rt (.inl (y + (1 : Int32))))
  else
    rt (.inr ()))) := rfl
theorem b_R_cousinsOf_60 {d : Nat} (hcs : AllS L X d (cs_R_cousinsOf F_R_isOut F_R_writes)) (x1 : Int32) (x2 : Int32) {o : Option Value × PH} {Q : ((Int32) ⊕ (Unit)) → MI → Prop} (qb : ∀ y I, Q (.inl y) I → At L X (d + 1) 251 60 [(112, .ref 207), (0, .int x1), (0, .int x2), (0, .int y)] [] I o) (qr : ∀ v I, Q (.inr v) I → o = (none, HH I)) (y : Int32) (I : MI) (r : (Int32) ⊕ (Unit)) (I1 : MI) (h : B_R_cousinsOf_60 x1 x2 y I = some (r, I1)) (hq : Q r I1) : At L X (d + 1) 251 60 [(112, .ref 207), (0, .int x1), (0, .int x2), (0, .int y)] [] I o := by
  refine wf_ok z_R_cousinsOf hcs ?_ ?_ _ _ _ _ _ ⟨rfl, trivial, trivial, trivial, trivial⟩ trivial (unm_refl _ _) ((congrFun (e_b_R_cousinsOf_60 (L := L) (X := X) F_R_isOut F_R_writes x1 x2 y) I).trans h)
  · intro pc ls st I2 h1 h2 h3 h
    rcases mC_ok h with ⟨hb, h⟩ | ⟨_, h⟩
    · have e := Nat.eq_of_beq_eq_true hb
      subst e
      obtain ⟨hst, h⟩ := mN_ok h
      subst hst
      obtain ⟨a3, n3, h⟩ := gI_ok h
      refine at_leaf (ls2 := [(112, .ref 207), (0, .int x1), (0, .int x2), (0, .int a3)]) h3.1 ⟨Or.inr ⟨_, (h3.2 0 rfl).trans rfl⟩, Or.inr ⟨_, (h3.2 1 rfl).trans rfl⟩, Or.inr ⟨_, (h3.2 2 rfl).trans rfl⟩, Or.inr n3, trivial⟩ ?_
      cases h; exact qb _ _ hq
    cases h
  · intro v I2 _ h
    split at h
    · cases h; exact qr _ _ hq
    · cases h
def K_R_cousinsOf_60 (x1 : Int32) (x2 : Int32) (x3 : Int32) : M (Unit) :=
  lp (B_R_cousinsOf_60 x1 x2) FU x3
theorem s_R_cousinsOf_60 {d : Nat} (hcs : AllS L X d (cs_R_cousinsOf F_R_isOut F_R_writes)) (x1 : Int32) (x2 : Int32) (x3 : Int32) {o : Option Value × PH} {Q : (Unit) → MI → Prop} (q0 : ∀ v I, Q v I → o = (none, HH I)) (I : MI) (r : Unit) (I1 : MI) (h : K_R_cousinsOf_60 x1 x2 x3 I = some (r, I1)) (hq : Q r I1) : At L X (d + 1) 251 60 [(112, .ref 207), (0, .int x1), (0, .int x2), (0, .int x3)] [] I o := by
  unfold K_R_cousinsOf_60 at h
  have w0 := fun w => at_lp (body := B_R_cousinsOf_60 x1 x2) (P := (fun (y : Int32) I => At L X (d + 1) 251 60 [(112, .ref 207), (0, .int x1), (0, .int x2), (0, .int y)] [] I o)) (Q := (fun (e : Unit) I => Q e I)) w FU x3 I r I1 h hq
  refine w0 ?_
  intro y I r I1 h hq
  exact b_R_cousinsOf_60 hcs x1 x2 (Q := SQ (fun (y : Int32) I => At L X (d + 1) 251 60 [(112, .ref 207), (0, .int x1), (0, .int x2), (0, .int y)] [] I o) (fun (e : Unit) I => Q e I)) (fun _ _ w => w) q0 y I r I1 h hq
def K_R_cousinsOf_58 (x1 : Int32) (x2 : Int32) : M (Unit) :=
  K_R_cousinsOf_60 x1 x2 (0 : Int32)
set_option maxRecDepth 4000 in
theorem e_s_R_cousinsOf_58 (f_R_isOut : Int32 → M Int32) (f_R_writes : Int32 → Int32 → Int32 → M Unit) (k_60 : Int32 → Int32 → Int32 → M (Unit)) (x1 : Int32) (x2 : Int32) : wf (β := Unit) L X q_R_cousinsOf 0 (cs_R_cousinsOf f_R_isOut f_R_writes) [3] [4, 58, 60] (fun pc ls st => mC (Nat.beq pc 60) (mN st <| gI ls 3 fun a3 => k_60 x1 x2 a3) (fl)) (fun v => match v with | none => rt () | _ => fl) 114 58 [(112, .ref 207), (0, .int x1), (0, .int x2), (0, dV)] [] = (k_60 x1 x2 (0 : Int32)) := rfl
theorem s_R_cousinsOf_58 {d : Nat} (hcs : AllS L X d (cs_R_cousinsOf F_R_isOut F_R_writes)) (x1 : Int32) (x2 : Int32) {o : Option Value × PH} {Q : (Unit) → MI → Prop} (q0 : ∀ v I, Q v I → o = (none, HH I)) (I : MI) (r : Unit) (I1 : MI) (h : K_R_cousinsOf_58 x1 x2 I = some (r, I1)) (hq : Q r I1) : At L X (d + 1) 251 58 [(112, .ref 207), (0, .int x1), (0, .int x2), (0, dV)] [] I o := by
  refine wf_ok z_R_cousinsOf hcs ?_ ?_ _ _ _ _ _ ⟨rfl, trivial, trivial, trivial, trivial⟩ trivial (unm_refl _ _) ((congrFun (e_s_R_cousinsOf_58 (L := L) (X := X) F_R_isOut F_R_writes K_R_cousinsOf_60 x1 x2) I).trans h)
  · intro pc ls st I2 h1 h2 h3 h
    rcases mC_ok h with ⟨hb, h⟩ | ⟨_, h⟩
    · have e := Nat.eq_of_beq_eq_true hb
      subst e
      obtain ⟨hst, h⟩ := mN_ok h
      subst hst
      obtain ⟨a3, n3, h⟩ := gI_ok h
      refine at_leaf (ls2 := [(112, .ref 207), (0, .int x1), (0, .int x2), (0, .int a3)]) h3.1 ⟨Or.inr ⟨_, (h3.2 0 rfl).trans rfl⟩, Or.inr ⟨_, (h3.2 1 rfl).trans rfl⟩, Or.inr ⟨_, (h3.2 2 rfl).trans rfl⟩, Or.inr n3, trivial⟩ ?_
      exact s_R_cousinsOf_60 hcs x1 x2 a3 q0 _ _ _ h hq
    cases h
  · intro v I2 _ h
    split at h
    · cases h; exact q0 _ _ hq
    · cases h
def K_R_cousinsOf_4 (x1 : Int32) (x2 : Int32) (x3 : Int32) : M (Unit) :=
  bn (lp (B_R_cousinsOf_4 x1) FU (x2, x3)) fun e => K_R_cousinsOf_58 x1 e
theorem s_R_cousinsOf_4 {d : Nat} (hcs : AllS L X d (cs_R_cousinsOf F_R_isOut F_R_writes)) (x1 : Int32) (x2 : Int32) (x3 : Int32) {o : Option Value × PH} {Q : (Unit) → MI → Prop} (q0 : ∀ v I, Q v I → o = (none, HH I)) (I : MI) (r : Unit) (I1 : MI) (h : K_R_cousinsOf_4 x1 x2 x3 I = some (r, I1)) (hq : Q r I1) : At L X (d + 1) 251 4 [(112, .ref 207), (0, .int x1), (0, .int x2), (0, .int x3)] [] I o := by
  unfold K_R_cousinsOf_4 at h
  obtain ⟨e, I2, h1, h2⟩ := bn_some h
  have w0 := fun w => at_lp (body := B_R_cousinsOf_4 x1) (P := (fun (y : Int32 × Int32) I => At L X (d + 1) 251 4 [(112, .ref 207), (0, .int x1), (0, .int y.1), (0, .int y.2)] [] I o)) (Q := (fun (e : (Int32)) I => (K_R_cousinsOf_58 x1 e) I = some (r, I1))) w FU (x2, x3) I e I2 h1 h2
  refine w0 ?_
  intro y I r2 I3 h hq2
  exact b_R_cousinsOf_4 hcs x1 (Q := SQ (fun (y : Int32 × Int32) I => At L X (d + 1) 251 4 [(112, .ref 207), (0, .int x1), (0, .int y.1), (0, .int y.2)] [] I o) (fun (e : (Int32)) I => (K_R_cousinsOf_58 x1 e) I = some (r, I1))) (fun _ _ w => w) (fun y I w => s_R_cousinsOf_58 hcs x1 y q0 _ _ _ w hq) y I r2 I3 h hq2
def F_R_cousinsOf (x1 : Int32) : M (Unit) :=
  K_R_cousinsOf_4 x1 (-1 : Int32) (0 : Int32)
set_option maxRecDepth 4000 in
theorem e_s_R_cousinsOf_0 (f_R_isOut : Int32 → M Int32) (f_R_writes : Int32 → Int32 → Int32 → M Unit) (k_4 : Int32 → Int32 → Int32 → M (Unit)) (x1 : Int32) : wf (β := Unit) L X q_R_cousinsOf 0 (cs_R_cousinsOf f_R_isOut f_R_writes) [2, 3] [4, 58, 60] (fun pc ls st => mC (Nat.beq pc 4) (mN st <| gI ls 2 fun a2 => gI ls 3 fun a3 => k_4 x1 a2 a3) (fl)) (fun v => match v with | none => rt () | _ => fl) 114 0 [(112, .ref 207), (0, .int x1), (0, dV), (0, dV)] [] = (k_4 x1 (-1 : Int32) (0 : Int32)) := rfl
theorem s_R_cousinsOf_0 {d : Nat} (hcs : AllS L X d (cs_R_cousinsOf F_R_isOut F_R_writes)) (x1 : Int32) {o : Option Value × PH} {Q : (Unit) → MI → Prop} (q0 : ∀ v I, Q v I → o = (none, HH I)) (I : MI) (r : Unit) (I1 : MI) (h : F_R_cousinsOf x1 I = some (r, I1)) (hq : Q r I1) : At L X (d + 1) 251 0 [(112, .ref 207), (0, .int x1), (0, dV), (0, dV)] [] I o := by
  refine wf_ok z_R_cousinsOf hcs ?_ ?_ _ _ _ _ _ ⟨rfl, trivial, trivial, trivial, trivial⟩ trivial (unm_refl _ _) ((congrFun (e_s_R_cousinsOf_0 (L := L) (X := X) F_R_isOut F_R_writes K_R_cousinsOf_4 x1) I).trans h)
  · intro pc ls st I2 h1 h2 h3 h
    rcases mC_ok h with ⟨hb, h⟩ | ⟨_, h⟩
    · have e := Nat.eq_of_beq_eq_true hb
      subst e
      obtain ⟨hst, h⟩ := mN_ok h
      subst hst
      obtain ⟨a2, n2, h⟩ := gI_ok h
      obtain ⟨a3, n3, h⟩ := gI_ok h
      refine at_leaf (ls2 := [(112, .ref 207), (0, .int x1), (0, .int a2), (0, .int a3)]) h3.1 ⟨Or.inr ⟨_, (h3.2 0 rfl).trans rfl⟩, Or.inr ⟨_, (h3.2 1 rfl).trans rfl⟩, Or.inr n2, Or.inr n3, trivial⟩ ?_
      exact s_R_cousinsOf_4 hcs x1 a2 a3 q0 _ _ _ h hq
    cases h
  · intro v I2 _ h
    split at h
    · cases h; exact q0 _ _ hq
    · cases h
theorem w_R_cousinsOf {d : Nat} (hcs : AllS L X d (cs_R_cousinsOf F_R_isOut F_R_writes)) : Snd L X (d + 1) 251 2 (W_R_cousinsOf F_R_cousinsOf) := by
  refine ⟨_, z_R_cousinsOf, rfl, fun β args k I r hty hlen h => ?_⟩
  unfold W_R_cousinsOf at h
  split at h
  · rename_i t0 a0 u1 a1
    obtain ⟨hb0, h⟩ := mB_ok h
    have e0 := Nat.eq_of_beq_eq_true hb0
    have g0 : okB 112 a0 = true := e0 ▸ hty.1
    have e20 := one_112 g0
    subst e20
    obtain ⟨v, I1, h1, h2⟩ := bn_some h
    refine ⟨gf_obj (c := 12) (by decide) g0, rfl, none, I1, trivial, ?_, h2⟩
    exact s_R_cousinsOf_0 hcs a1  (Q := fun w I => w = v ∧ I = I1) (fun w I q => by obtain ⟨rfl, rfl⟩ := q; rfl) I v I1 h1 ⟨rfl, rfl⟩
  · cases h
theorem S_R_cousinsOf {d : Nat} (hd : 2 ≤ d) : Snd L X d 251 2 (W_R_cousinsOf F_R_cousinsOf) := by
  obtain ⟨e, rfl⟩ : ∃ e, d = e + 1 := ⟨d - 1, by omega⟩
  exact w_R_cousinsOf ⟨S_R_isOut (by omega), S_R_writes (by omega), trivial⟩
set_option maxRecDepth 100000 in
theorem z_R_does : pT[245]? = some (q_R_does, 2, 5, 0, 12) := rfl
def W_R_does (F : Int32 → M Unit) : CSem := fun _ args k => match args with
  | [(t0, .ref a0), (_, .int a1)] => mB (Nat.beq t0 112) <| bn (F a1) fun _ => k none
  | _ => fl
def cs_R_does (f_R_goesHome : Int32 → M Unit) (f_R_goesOut : Int32 → Int32 → M Unit) (f_R_isStruck : Int32 → M Int32) (f_R_lesser : Int32 → Int32 → M Int32) : List (Nat × Nat × CSem) := [(249, 2, W_R_goesHome f_R_goesHome), (247, 3, W_R_goesOut f_R_goesOut), (246, 2, W_R_isStruck f_R_isStruck), (248, 3, W_R_lesser f_R_lesser)]
def K_R_does_80 (x2 : Int32) (x3 : Int32) (x4 : Int32) : M (Unit) :=
  (if x2 = (2 : Int32) then
    bn (F_R_goesHome x3) fun _ =>
    (if x2 = (3 : Int32) then
      bn (sr 95 208 ((7 : Int32) + x3) x4) fun _ =>
      rt ()
    else
      rt ())
  else
    (if x2 = (3 : Int32) then
      bn (sr 95 208 ((7 : Int32) + x3) x4) fun _ =>
      rt ()
    else
      rt ()))
set_option maxRecDepth 4000 in
theorem e_s_R_does_80 (f_R_goesHome : Int32 → M Unit) (f_R_goesOut : Int32 → Int32 → M Unit) (f_R_isStruck : Int32 → M Int32) (f_R_lesser : Int32 → Int32 → M Int32) (x2 : Int32) (x3 : Int32) (x4 : Int32) : wf (β := Unit) L X q_R_does 0 (cs_R_does f_R_goesHome f_R_goesOut f_R_isStruck f_R_lesser) [] [47, 80] (fun _ _ _ => fl) (fun v => match v with | none => rt () | _ => fl) 73 80 [(112, .ref 207), (0, dV), (0, .int x2), (0, .int x3), (0, .int x4)] [] = ((if x2 = (2 : Int32) then
    bn (f_R_goesHome x3) fun _ =>
    (if x2 = (3 : Int32) then
      bn (sr 95 208 ((7 : Int32) + x3) x4) fun _ =>
      rt ()
    else
      rt ())
  else
    (if x2 = (3 : Int32) then
      bn (sr 95 208 ((7 : Int32) + x3) x4) fun _ =>
      rt ()
    else
      rt ()))) := rfl
theorem s_R_does_80 {d : Nat} (hcs : AllS L X d (cs_R_does F_R_goesHome F_R_goesOut F_R_isStruck F_R_lesser)) (x2 : Int32) (x3 : Int32) (x4 : Int32) {o : Option Value × PH} {Q : (Unit) → MI → Prop} (q0 : ∀ v I, Q v I → o = (none, HH I)) (I : MI) (r : Unit) (I1 : MI) (h : K_R_does_80 x2 x3 x4 I = some (r, I1)) (hq : Q r I1) : At L X (d + 1) 245 80 [(112, .ref 207), (0, dV), (0, .int x2), (0, .int x3), (0, .int x4)] [] I o := by
  refine wf_ok z_R_does hcs ?_ ?_ _ _ _ _ _ ⟨rfl, trivial, trivial, trivial, trivial, trivial⟩ trivial (unm_refl _ _) ((congrFun (e_s_R_does_80 (L := L) (X := X) F_R_goesHome F_R_goesOut F_R_isStruck F_R_lesser x2 x3 x4) I).trans h)
  · intro pc ls st I2 h1 h2 h3 h
    cases h
  · intro v I2 _ h
    split at h
    · cases h; exact q0 _ _ hq
    · cases h
def K_R_does_47 (x2 : Int32) (x3 : Int32) (x4 : Int32) : M (Unit) :=
  (if x2 = (1 : Int32) then
    bn (ld 95 208 ((17 : Int32) + x3)) fun v1 =>
    bn (F_R_lesser (9999 : Int32) (v1 + x4)) fun v2 =>
    bn (sr 95 208 ((17 : Int32) + x3) v2) fun _ =>
    K_R_does_80 x2 x3 x4
  else
    K_R_does_80 x2 x3 x4)
set_option maxRecDepth 4000 in
theorem e_s_R_does_47 (f_R_goesHome : Int32 → M Unit) (f_R_goesOut : Int32 → Int32 → M Unit) (f_R_isStruck : Int32 → M Int32) (f_R_lesser : Int32 → Int32 → M Int32) (k_80 : Int32 → Int32 → Int32 → M (Unit)) (x2 : Int32) (x3 : Int32) (x4 : Int32) : wf (β := Unit) L X q_R_does 0 (cs_R_does f_R_goesHome f_R_goesOut f_R_isStruck f_R_lesser) [] [47, 80] (fun pc ls st => mC (Nat.beq pc 80) (mN st <| gD ls 1 <| k_80 x2 x3 x4) (fl)) (fun v => match v with | none => rt () | _ => fl) 73 47 [(112, .ref 207), (0, dV), (0, .int x2), (0, .int x3), (0, .int x4)] [] = ((if x2 = (1 : Int32) then
    bn (ld 95 208 ((17 : Int32) + x3)) fun v1 =>
    bn (f_R_lesser (9999 : Int32) (v1 + x4)) fun v2 =>
    bn (sr 95 208 ((17 : Int32) + x3) v2) fun _ =>
    k_80 x2 x3 x4
  else
    k_80 x2 x3 x4)) := rfl
theorem s_R_does_47 {d : Nat} (hcs : AllS L X d (cs_R_does F_R_goesHome F_R_goesOut F_R_isStruck F_R_lesser)) (x2 : Int32) (x3 : Int32) (x4 : Int32) {o : Option Value × PH} {Q : (Unit) → MI → Prop} (q0 : ∀ v I, Q v I → o = (none, HH I)) (I : MI) (r : Unit) (I1 : MI) (h : K_R_does_47 x2 x3 x4 I = some (r, I1)) (hq : Q r I1) : At L X (d + 1) 245 47 [(112, .ref 207), (0, dV), (0, .int x2), (0, .int x3), (0, .int x4)] [] I o := by
  refine wf_ok z_R_does hcs ?_ ?_ _ _ _ _ _ ⟨rfl, trivial, trivial, trivial, trivial, trivial⟩ trivial (unm_refl _ _) ((congrFun (e_s_R_does_47 (L := L) (X := X) F_R_goesHome F_R_goesOut F_R_isStruck F_R_lesser K_R_does_80 x2 x3 x4) I).trans h)
  · intro pc ls st I2 h1 h2 h3 h
    rcases mC_ok h with ⟨hb, h⟩ | ⟨_, h⟩
    · have e := Nat.eq_of_beq_eq_true hb
      subst e
      obtain ⟨hst, h⟩ := mN_ok h
      subst hst
      obtain ⟨n1, h⟩ := gD_ok h
      refine at_leaf (ls2 := [(112, .ref 207), (0, dV), (0, .int x2), (0, .int x3), (0, .int x4)]) h3.1 ⟨Or.inr ⟨_, (h3.2 0 rfl).trans rfl⟩, Or.inl ⟨rfl, n1⟩, Or.inr ⟨_, (h3.2 2 rfl).trans rfl⟩, Or.inr ⟨_, (h3.2 3 rfl).trans rfl⟩, Or.inr ⟨_, (h3.2 4 rfl).trans rfl⟩, trivial⟩ ?_
      exact s_R_does_80 hcs x2 x3 x4 q0 _ _ _ h hq
    cases h
  · intro v I2 _ h
    split at h
    · cases h; exact q0 _ _ hq
    · cases h
def F_R_does (x1 : Int32) : M (Unit) :=
  bn (ld 160 227 (x1 + (2 : Int32))) fun v1 =>
  bn (ld 160 227 (x1 + (3 : Int32))) fun v2 =>
  bn (ld 160 227 (x1 + (4 : Int32))) fun v3 =>
  (if v1 = 0 then
    bn (F_R_isStruck v2) fun v4 =>
    (if v4 = 0 then
      bn (F_R_goesOut v2 v3) fun _ =>
      K_R_does_47 v1 v2 v3
    else
      K_R_does_47 v1 v2 v3)
  else
    K_R_does_47 v1 v2 v3)
set_option maxRecDepth 4000 in
theorem e_s_R_does_0 (f_R_goesHome : Int32 → M Unit) (f_R_goesOut : Int32 → Int32 → M Unit) (f_R_isStruck : Int32 → M Int32) (f_R_lesser : Int32 → Int32 → M Int32) (k_47 : Int32 → Int32 → Int32 → M (Unit)) (x1 : Int32) : wf (β := Unit) L X q_R_does 0 (cs_R_does f_R_goesHome f_R_goesOut f_R_isStruck f_R_lesser) [2, 3, 4] [47, 80] (fun pc ls st => mC (Nat.beq pc 47) (mN st <| gD ls 1 <| gI ls 2 fun a2 => gI ls 3 fun a3 => gI ls 4 fun a4 => k_47 a2 a3 a4) (fl)) (fun v => match v with | none => rt () | _ => fl) 73 0 [(112, .ref 207), (0, .int x1), (0, dV), (0, dV), (0, dV)] [] = (bn (ld 160 227 (x1 + (2 : Int32))) fun v1 =>
  bn (ld 160 227 (x1 + (3 : Int32))) fun v2 =>
  bn (ld 160 227 (x1 + (4 : Int32))) fun v3 =>
  (if v1 = 0 then
    bn (f_R_isStruck v2) fun v4 =>
    (if v4 = 0 then
      bn (f_R_goesOut v2 v3) fun _ =>
      k_47 v1 v2 v3
    else
      k_47 v1 v2 v3)
  else
    k_47 v1 v2 v3)) := rfl
theorem s_R_does_0 {d : Nat} (hcs : AllS L X d (cs_R_does F_R_goesHome F_R_goesOut F_R_isStruck F_R_lesser)) (x1 : Int32) {o : Option Value × PH} {Q : (Unit) → MI → Prop} (q0 : ∀ v I, Q v I → o = (none, HH I)) (I : MI) (r : Unit) (I1 : MI) (h : F_R_does x1 I = some (r, I1)) (hq : Q r I1) : At L X (d + 1) 245 0 [(112, .ref 207), (0, .int x1), (0, dV), (0, dV), (0, dV)] [] I o := by
  refine wf_ok z_R_does hcs ?_ ?_ _ _ _ _ _ ⟨rfl, trivial, trivial, trivial, trivial, trivial⟩ trivial (unm_refl _ _) ((congrFun (e_s_R_does_0 (L := L) (X := X) F_R_goesHome F_R_goesOut F_R_isStruck F_R_lesser K_R_does_47 x1) I).trans h)
  · intro pc ls st I2 h1 h2 h3 h
    rcases mC_ok h with ⟨hb, h⟩ | ⟨_, h⟩
    · have e := Nat.eq_of_beq_eq_true hb
      subst e
      obtain ⟨hst, h⟩ := mN_ok h
      subst hst
      obtain ⟨n1, h⟩ := gD_ok h
      obtain ⟨a2, n2, h⟩ := gI_ok h
      obtain ⟨a3, n3, h⟩ := gI_ok h
      obtain ⟨a4, n4, h⟩ := gI_ok h
      refine at_leaf (ls2 := [(112, .ref 207), (0, dV), (0, .int a2), (0, .int a3), (0, .int a4)]) h3.1 ⟨Or.inr ⟨_, (h3.2 0 rfl).trans rfl⟩, Or.inl ⟨rfl, n1⟩, Or.inr n2, Or.inr n3, Or.inr n4, trivial⟩ ?_
      exact s_R_does_47 hcs a2 a3 a4 q0 _ _ _ h hq
    cases h
  · intro v I2 _ h
    split at h
    · cases h; exact q0 _ _ hq
    · cases h
theorem w_R_does {d : Nat} (hcs : AllS L X d (cs_R_does F_R_goesHome F_R_goesOut F_R_isStruck F_R_lesser)) : Snd L X (d + 1) 245 2 (W_R_does F_R_does) := by
  refine ⟨_, z_R_does, rfl, fun β args k I r hty hlen h => ?_⟩
  unfold W_R_does at h
  split at h
  · rename_i t0 a0 u1 a1
    obtain ⟨hb0, h⟩ := mB_ok h
    have e0 := Nat.eq_of_beq_eq_true hb0
    have g0 : okB 112 a0 = true := e0 ▸ hty.1
    have e20 := one_112 g0
    subst e20
    obtain ⟨v, I1, h1, h2⟩ := bn_some h
    refine ⟨gf_obj (c := 12) (by decide) g0, rfl, none, I1, trivial, ?_, h2⟩
    exact s_R_does_0 hcs a1  (Q := fun w I => w = v ∧ I = I1) (fun w I q => by obtain ⟨rfl, rfl⟩ := q; rfl) I v I1 h1 ⟨rfl, rfl⟩
  · cases h
theorem S_R_does {d : Nat} (hd : 2 ≤ d) : Snd L X d 245 2 (W_R_does F_R_does) := by
  obtain ⟨e, rfl⟩ : ∃ e, d = e + 1 := ⟨d - 1, by omega⟩
  exact w_R_does ⟨S_R_goesHome (by omega), S_R_goesOut (by omega), S_R_isStruck (by omega), S_R_lesser (by omega), trivial⟩
set_option maxRecDepth 100000 in
theorem z_R_othersBy : pT[257]? = some (q_R_othersBy, 2, 4, 1, 12) := rfl
def W_R_othersBy (F : Int32 → M Int32) : CSem := fun _ args k => match args with
  | [(t0, .ref a0), (_, .int a1)] => mB (Nat.beq t0 112) <| bn (F a1) fun v => k (some (0, .int v))
  | _ => fl
def cs_R_othersBy (f_R_isOut : Int32 → M Int32) : List (Nat × Nat × CSem) := [(252, 2, W_R_isOut f_R_isOut)]
def B_R_othersBy_4 (x1 : Int32) (y : Int32 × Int32) : M ((Int32 × Int32) ⊕ (Int32)) :=
  bn (rd 207 7) fun v1 =>
  (if y.2 < v1 then
    (if y.2 = x1 then
      rt (.inl (y.1, (y.2 + (1 : Int32))))
    else
      bn (F_R_isOut y.2) fun v2 =>
      (if v2 = 0 then
        rt (.inl (y.1, (y.2 + (1 : Int32))))
      else
        bn (ld 95 208 ((23 : Int32) + y.2)) fun v3 =>
        bn (ld 95 208 ((23 : Int32) + x1)) fun v4 =>
        (if v3 = v4 then
          rt (.inl ((y.1 + (1 : Int32)), (y.2 + (1 : Int32))))
        else
          rt (.inl (y.1, (y.2 + (1 : Int32)))))))
  else
    rt (.inr y.1))
set_option maxRecDepth 4000 in
theorem e_b_R_othersBy_4 (f_R_isOut : Int32 → M Int32) (x1 : Int32) (y : Int32 × Int32) : wf (β := (Int32 × Int32) ⊕ (Int32)) L X q_R_othersBy 1 (cs_R_othersBy f_R_isOut) [2, 3] [4] (fun pc ls st => mC (Nat.beq pc 4) (mN st <| gI ls 2 fun a2 => gI ls 3 fun a3 => rt (.inl (a2, a3))) (fl)) (fun v => match v with | some (_, .int x) => rt (.inr x) | _ => fl) 41 4 [(112, .ref 207), (0, .int x1), (0, .int y.1), (0, .int y.2)] [] = (bn (rd 207 7) fun v1 =>
  (if y.2 < v1 then
    (if y.2 = x1 then
      rt (.inl (y.1, (y.2 + (1 : Int32))))
    else
      bn (f_R_isOut y.2) fun v2 =>
      (if v2 = 0 then
        rt (.inl (y.1, (y.2 + (1 : Int32))))
      else
        bn (ld 95 208 ((23 : Int32) + y.2)) fun v3 =>
        bn (ld 95 208 ((23 : Int32) + x1)) fun v4 =>
        (if v3 = v4 then
          rt (.inl ((y.1 + (1 : Int32)), (y.2 + (1 : Int32))))
        else
          rt (.inl (y.1, (y.2 + (1 : Int32)))))))
  else
    rt (.inr y.1))) := rfl
theorem b_R_othersBy_4 {d : Nat} (hcs : AllS L X d (cs_R_othersBy F_R_isOut)) (x1 : Int32) {o : Option Value × PH} {Q : ((Int32 × Int32) ⊕ (Int32)) → MI → Prop} (qb : ∀ y I, Q (.inl y) I → At L X (d + 1) 257 4 [(112, .ref 207), (0, .int x1), (0, .int y.1), (0, .int y.2)] [] I o) (qr : ∀ v I, Q (.inr v) I → o = (some (.int v), HH I)) (y : Int32 × Int32) (I : MI) (r : (Int32 × Int32) ⊕ (Int32)) (I1 : MI) (h : B_R_othersBy_4 x1 y I = some (r, I1)) (hq : Q r I1) : At L X (d + 1) 257 4 [(112, .ref 207), (0, .int x1), (0, .int y.1), (0, .int y.2)] [] I o := by
  refine wf_ok z_R_othersBy hcs ?_ ?_ _ _ _ _ _ ⟨rfl, trivial, trivial, trivial, trivial⟩ trivial (unm_refl _ _) ((congrFun (e_b_R_othersBy_4 (L := L) (X := X) F_R_isOut x1 y) I).trans h)
  · intro pc ls st I2 h1 h2 h3 h
    rcases mC_ok h with ⟨hb, h⟩ | ⟨_, h⟩
    · have e := Nat.eq_of_beq_eq_true hb
      subst e
      obtain ⟨hst, h⟩ := mN_ok h
      subst hst
      obtain ⟨a2, n2, h⟩ := gI_ok h
      obtain ⟨a3, n3, h⟩ := gI_ok h
      refine at_leaf (ls2 := [(112, .ref 207), (0, .int x1), (0, .int a2), (0, .int a3)]) h3.1 ⟨Or.inr ⟨_, (h3.2 0 rfl).trans rfl⟩, Or.inr ⟨_, (h3.2 1 rfl).trans rfl⟩, Or.inr n2, Or.inr n3, trivial⟩ ?_
      cases h; exact qb _ _ hq
    cases h
  · intro v I2 _ h
    split at h
    · cases h; exact qr _ _ hq
    · cases h
def K_R_othersBy_4 (x1 : Int32) (x2 : Int32) (x3 : Int32) : M (Int32) :=
  lp (B_R_othersBy_4 x1) FU (x2, x3)
theorem s_R_othersBy_4 {d : Nat} (hcs : AllS L X d (cs_R_othersBy F_R_isOut)) (x1 : Int32) (x2 : Int32) (x3 : Int32) {o : Option Value × PH} {Q : (Int32) → MI → Prop} (q0 : ∀ v I, Q v I → o = (some (.int v), HH I)) (I : MI) (r : Int32) (I1 : MI) (h : K_R_othersBy_4 x1 x2 x3 I = some (r, I1)) (hq : Q r I1) : At L X (d + 1) 257 4 [(112, .ref 207), (0, .int x1), (0, .int x2), (0, .int x3)] [] I o := by
  unfold K_R_othersBy_4 at h
  have w0 := fun w => at_lp (body := B_R_othersBy_4 x1) (P := (fun (y : Int32 × Int32) I => At L X (d + 1) 257 4 [(112, .ref 207), (0, .int x1), (0, .int y.1), (0, .int y.2)] [] I o)) (Q := (fun (e : Int32) I => Q e I)) w FU (x2, x3) I r I1 h hq
  refine w0 ?_
  intro y I r I1 h hq
  exact b_R_othersBy_4 hcs x1 (Q := SQ (fun (y : Int32 × Int32) I => At L X (d + 1) 257 4 [(112, .ref 207), (0, .int x1), (0, .int y.1), (0, .int y.2)] [] I o) (fun (e : Int32) I => Q e I)) (fun _ _ w => w) q0 y I r I1 h hq
def F_R_othersBy (x1 : Int32) : M (Int32) :=
  K_R_othersBy_4 x1 (0 : Int32) (0 : Int32)
set_option maxRecDepth 4000 in
theorem e_s_R_othersBy_0 (f_R_isOut : Int32 → M Int32) (k_4 : Int32 → Int32 → Int32 → M (Int32)) (x1 : Int32) : wf (β := Int32) L X q_R_othersBy 1 (cs_R_othersBy f_R_isOut) [2, 3] [4] (fun pc ls st => mC (Nat.beq pc 4) (mN st <| gI ls 2 fun a2 => gI ls 3 fun a3 => k_4 x1 a2 a3) (fl)) (fun v => match v with | some (_, .int x) => rt x | _ => fl) 41 0 [(112, .ref 207), (0, .int x1), (0, dV), (0, dV)] [] = (k_4 x1 (0 : Int32) (0 : Int32)) := rfl
theorem s_R_othersBy_0 {d : Nat} (hcs : AllS L X d (cs_R_othersBy F_R_isOut)) (x1 : Int32) {o : Option Value × PH} {Q : (Int32) → MI → Prop} (q0 : ∀ v I, Q v I → o = (some (.int v), HH I)) (I : MI) (r : Int32) (I1 : MI) (h : F_R_othersBy x1 I = some (r, I1)) (hq : Q r I1) : At L X (d + 1) 257 0 [(112, .ref 207), (0, .int x1), (0, dV), (0, dV)] [] I o := by
  refine wf_ok z_R_othersBy hcs ?_ ?_ _ _ _ _ _ ⟨rfl, trivial, trivial, trivial, trivial⟩ trivial (unm_refl _ _) ((congrFun (e_s_R_othersBy_0 (L := L) (X := X) F_R_isOut K_R_othersBy_4 x1) I).trans h)
  · intro pc ls st I2 h1 h2 h3 h
    rcases mC_ok h with ⟨hb, h⟩ | ⟨_, h⟩
    · have e := Nat.eq_of_beq_eq_true hb
      subst e
      obtain ⟨hst, h⟩ := mN_ok h
      subst hst
      obtain ⟨a2, n2, h⟩ := gI_ok h
      obtain ⟨a3, n3, h⟩ := gI_ok h
      refine at_leaf (ls2 := [(112, .ref 207), (0, .int x1), (0, .int a2), (0, .int a3)]) h3.1 ⟨Or.inr ⟨_, (h3.2 0 rfl).trans rfl⟩, Or.inr ⟨_, (h3.2 1 rfl).trans rfl⟩, Or.inr n2, Or.inr n3, trivial⟩ ?_
      exact s_R_othersBy_4 hcs x1 a2 a3 q0 _ _ _ h hq
    cases h
  · intro v I2 _ h
    split at h
    · cases h; exact q0 _ _ hq
    · cases h
theorem w_R_othersBy {d : Nat} (hcs : AllS L X d (cs_R_othersBy F_R_isOut)) : Snd L X (d + 1) 257 2 (W_R_othersBy F_R_othersBy) := by
  refine ⟨_, z_R_othersBy, rfl, fun β args k I r hty hlen h => ?_⟩
  unfold W_R_othersBy at h
  split at h
  · rename_i t0 a0 u1 a1
    obtain ⟨hb0, h⟩ := mB_ok h
    have e0 := Nat.eq_of_beq_eq_true hb0
    have g0 : okB 112 a0 = true := e0 ▸ hty.1
    have e20 := one_112 g0
    subst e20
    obtain ⟨v, I1, h1, h2⟩ := bn_some h
    refine ⟨gf_obj (c := 12) (by decide) g0, rfl, some (0, .int v), I1, trivial, ?_, h2⟩
    exact s_R_othersBy_0 hcs a1  (Q := fun w I => w = v ∧ I = I1) (fun w I q => by obtain ⟨rfl, rfl⟩ := q; rfl) I v I1 h1 ⟨rfl, rfl⟩
  · cases h
theorem S_R_othersBy {d : Nat} (hd : 2 ≤ d) : Snd L X d 257 2 (W_R_othersBy F_R_othersBy) := by
  obtain ⟨e, rfl⟩ : ∃ e, d = e + 1 := ⟨d - 1, by omega⟩
  exact w_R_othersBy ⟨S_R_isOut (by omega), trivial⟩
set_option maxRecDepth 100000 in
theorem z_R_asks : pT[256]? = some (q_R_asks, 2, 4, 0, 12) := rfl
def W_R_asks (F : Int32 → M Unit) : CSem := fun _ args k => match args with
  | [(t0, .ref a0), (_, .int a1)] => mB (Nat.beq t0 112) <| bn (F a1) fun _ => k none
  | _ => fl
def cs_R_asks (f_R_othersBy : Int32 → M Int32) : List (Nat × Nat × CSem) := [(257, 2, W_R_othersBy f_R_othersBy)]
def F_R_asks (x1 : Int32) : M (Unit) :=
  bn (ld 18 212 x1) fun v1 =>
  bn (ld 95 208 ((23 : Int32) + x1)) fun v2 =>
  bn (ld 18 213 x1) fun v3 =>
  bn (sr 9 229 (0 : Int32) v3) fun _ =>
  bn (ld 6 211 v1) fun v4 =>
  bn (sr 9 229 (1 : Int32) v4) fun _ =>
  bn (ld 95 208 ((7 : Int32) + v2)) fun v5 =>
  bn (sr 9 229 (2 : Int32) v5) fun _ =>
  bn (ld 95 208 ((59 : Int32) + x1)) fun v6 =>
  bn (sr 9 229 (3 : Int32) v6) fun _ =>
  bn (ld 95 208 ((17 : Int32) + v1)) fun v7 =>
  bn (sr 9 229 (4 : Int32) v7) fun _ =>
  bn (ld 95 208 (1 : Int32)) fun v8 =>
  bn (sr 9 229 (5 : Int32) v8) fun _ =>
  bn (sr 9 229 (6 : Int32) v2) fun _ =>
  bn (F_R_othersBy x1) fun v9 =>
  bn (sr 9 229 (7 : Int32) v9) fun _ =>
  bn (ld 95 208 (0 : Int32)) fun v10 =>
  bn (sr 9 229 (8 : Int32) v10) fun _ =>
  rt ()
set_option maxRecDepth 4000 in
theorem e_s_R_asks_0 (f_R_othersBy : Int32 → M Int32) (x1 : Int32) : wf (β := Unit) L X q_R_asks 0 (cs_R_asks f_R_othersBy) [2, 3] [] (fun _ _ _ => fl) (fun v => match v with | none => rt () | _ => fl) 92 0 [(112, .ref 207), (0, .int x1), (0, dV), (0, dV)] [] = (bn (ld 18 212 x1) fun v1 =>
  bn (ld 95 208 ((23 : Int32) + x1)) fun v2 =>
  bn (ld 18 213 x1) fun v3 =>
  bn (sr 9 229 (0 : Int32) v3) fun _ =>
  bn (ld 6 211 v1) fun v4 =>
  bn (sr 9 229 (1 : Int32) v4) fun _ =>
  bn (ld 95 208 ((7 : Int32) + v2)) fun v5 =>
  bn (sr 9 229 (2 : Int32) v5) fun _ =>
  bn (ld 95 208 ((59 : Int32) + x1)) fun v6 =>
  bn (sr 9 229 (3 : Int32) v6) fun _ =>
  bn (ld 95 208 ((17 : Int32) + v1)) fun v7 =>
  bn (sr 9 229 (4 : Int32) v7) fun _ =>
  bn (ld 95 208 (1 : Int32)) fun v8 =>
  bn (sr 9 229 (5 : Int32) v8) fun _ =>
  bn (sr 9 229 (6 : Int32) v2) fun _ =>
  bn (f_R_othersBy x1) fun v9 =>
  bn (sr 9 229 (7 : Int32) v9) fun _ =>
  bn (ld 95 208 (0 : Int32)) fun v10 =>
  bn (sr 9 229 (8 : Int32) v10) fun _ =>
  rt ()) := rfl
theorem s_R_asks_0 {d : Nat} (hcs : AllS L X d (cs_R_asks F_R_othersBy)) (x1 : Int32) {o : Option Value × PH} {Q : (Unit) → MI → Prop} (q0 : ∀ v I, Q v I → o = (none, HH I)) (I : MI) (r : Unit) (I1 : MI) (h : F_R_asks x1 I = some (r, I1)) (hq : Q r I1) : At L X (d + 1) 256 0 [(112, .ref 207), (0, .int x1), (0, dV), (0, dV)] [] I o := by
  refine wf_ok z_R_asks hcs ?_ ?_ _ _ _ _ _ ⟨rfl, trivial, trivial, trivial, trivial⟩ trivial (unm_refl _ _) ((congrFun (e_s_R_asks_0 (L := L) (X := X) F_R_othersBy x1) I).trans h)
  · intro pc ls st I2 h1 h2 h3 h
    cases h
  · intro v I2 _ h
    split at h
    · cases h; exact q0 _ _ hq
    · cases h
theorem w_R_asks {d : Nat} (hcs : AllS L X d (cs_R_asks F_R_othersBy)) : Snd L X (d + 1) 256 2 (W_R_asks F_R_asks) := by
  refine ⟨_, z_R_asks, rfl, fun β args k I r hty hlen h => ?_⟩
  unfold W_R_asks at h
  split at h
  · rename_i t0 a0 u1 a1
    obtain ⟨hb0, h⟩ := mB_ok h
    have e0 := Nat.eq_of_beq_eq_true hb0
    have g0 : okB 112 a0 = true := e0 ▸ hty.1
    have e20 := one_112 g0
    subst e20
    obtain ⟨v, I1, h1, h2⟩ := bn_some h
    refine ⟨gf_obj (c := 12) (by decide) g0, rfl, none, I1, trivial, ?_, h2⟩
    exact s_R_asks_0 hcs a1  (Q := fun w I => w = v ∧ I = I1) (fun w I q => by obtain ⟨rfl, rfl⟩ := q; rfl) I v I1 h1 ⟨rfl, rfl⟩
  · cases h
theorem S_R_asks {d : Nat} (hd : 3 ≤ d) : Snd L X d 256 2 (W_R_asks F_R_asks) := by
  obtain ⟨e, rfl⟩ : ∃ e, d = e + 1 := ⟨d - 1, by omega⟩
  exact w_R_asks ⟨S_R_othersBy (by omega), trivial⟩
set_option maxRecDepth 100000 in
theorem z_R_held : pT[262]? = some (q_R_held, 4, 4, 1, 12) := rfl
def W_R_held (F : Int32 → Int32 → Int32 → M Int32) : CSem := fun _ args k => match args with
  | [(t0, .ref a0), (_, .int a1), (_, .int a2), (_, .int a3)] => mB (Nat.beq t0 112) <| bn (F a1 a2 a3) fun v => k (some (0, .int v))
  | _ => fl
def cs_R_held : List (Nat × Nat × CSem) := []
def F_R_held (x1 : Int32) (x2 : Int32) (x3 : Int32) : M (Int32) :=
  (if x1 < x2 then
    rt x2
  else
    (if x3 < x1 then
      rt x3
    else
      rt x1))
set_option maxRecDepth 4000 in
theorem e_s_R_held_0 (x1 : Int32) (x2 : Int32) (x3 : Int32) : wf (β := Int32) L X q_R_held 1 cs_R_held [] [] (fun _ _ _ => fl) (fun v => match v with | some (_, .int x) => rt x | _ => fl) 17 0 [(112, .ref 207), (0, .int x1), (0, .int x2), (0, .int x3)] [] = ((if x1 < x2 then
    rt x2
  else
    (if x3 < x1 then
      rt x3
    else
      rt x1))) := rfl
theorem s_R_held_0 {d : Nat} (hcs : AllS L X d cs_R_held) (x1 : Int32) (x2 : Int32) (x3 : Int32) {o : Option Value × PH} {Q : (Int32) → MI → Prop} (q0 : ∀ v I, Q v I → o = (some (.int v), HH I)) (I : MI) (r : Int32) (I1 : MI) (h : F_R_held x1 x2 x3 I = some (r, I1)) (hq : Q r I1) : At L X (d + 1) 262 0 [(112, .ref 207), (0, .int x1), (0, .int x2), (0, .int x3)] [] I o := by
  refine wf_ok z_R_held hcs ?_ ?_ _ _ _ _ _ ⟨rfl, trivial, trivial, trivial, trivial⟩ trivial (unm_refl _ _) ((congrFun (e_s_R_held_0 (L := L) (X := X) x1 x2 x3) I).trans h)
  · intro pc ls st I2 h1 h2 h3 h
    cases h
  · intro v I2 _ h
    split at h
    · cases h; exact q0 _ _ hq
    · cases h
theorem w_R_held {d : Nat} (hcs : AllS L X d cs_R_held) : Snd L X (d + 1) 262 4 (W_R_held F_R_held) := by
  refine ⟨_, z_R_held, rfl, fun β args k I r hty hlen h => ?_⟩
  unfold W_R_held at h
  split at h
  · rename_i t0 a0 u1 a1 u2 a2 u3 a3
    obtain ⟨hb0, h⟩ := mB_ok h
    have e0 := Nat.eq_of_beq_eq_true hb0
    have g0 : okB 112 a0 = true := e0 ▸ hty.1
    have e20 := one_112 g0
    subst e20
    obtain ⟨v, I1, h1, h2⟩ := bn_some h
    refine ⟨gf_obj (c := 12) (by decide) g0, rfl, some (0, .int v), I1, trivial, ?_, h2⟩
    exact s_R_held_0 hcs a1 a2 a3  (Q := fun w I => w = v ∧ I = I1) (fun w I q => by obtain ⟨rfl, rfl⟩ := q; rfl) I v I1 h1 ⟨rfl, rfl⟩
  · cases h
theorem S_R_held {d : Nat} (hd : 1 ≤ d) : Snd L X d 262 4 (W_R_held F_R_held) := by
  obtain ⟨e, rfl⟩ : ∃ e, d = e + 1 := ⟨d - 1, by omega⟩
  exact w_R_held trivial
end
