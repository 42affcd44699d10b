/-! methods (written by wip/tools/gen_f.py) -/
section
variable {L : Nat} {X : Nat → Int32}
set_option maxRecDepth 100000 in
theorem z_R_readDiary : pT[221]? = some (q_R_readDiary, 1, 2, 1, 12) := rfl
def W_R_readDiary (F : M Int32) : CSem := fun _ args k => match args with
  | [(t0, .ref a0)] => mB (Nat.beq t0 112) <| bn (F) fun v => k (some (0, .int v))
  | _ => fl
def cs_R_readDiary (f_R_errs : Int32 → M Int32) (f_R_isWord : Int32 → M Int32) (f_R_readDeed : Int32 → M Int32) : List (Nat × Nat × CSem) := [(215, 2, W_R_errs f_R_errs), (214, 2, W_R_isWord f_R_isWord), (222, 2, W_R_readDeed f_R_readDeed)]
def B_R_readDiary_2 (y : Int32) : M ((Int32) ⊕ ((Int32) ⊕ Int32)) :=
  bn (F_R_isWord (20 : Int32)) fun v1 =>
  (if v1 = 0 then
    rt (.inr (.inl y))
  else
    (if y = (16 : Int32) then
      bn (F_R_errs (3 : Int32)) fun v3 =>
      rt (.inr (.inr v3))
    else
      bn (F_R_readDeed ((80 : Int32) + ((5 : Int32) * y))) fun v2 =>
      (if v2 = (-1 : Int32) then
        rt (.inr (.inr (-1 : Int32)))
      else
        rt (.inl (y + (1 : Int32))))))
set_option maxRecDepth 4000 in
theorem e_b_R_readDiary_2 (f_R_errs : Int32 → M Int32) (f_R_isWord : Int32 → M Int32) (f_R_readDeed : Int32 → M Int32) (y : Int32) : wf (β := (Int32) ⊕ ((Int32) ⊕ Int32)) L X q_R_readDiary 1 (cs_R_readDiary f_R_errs f_R_isWord f_R_readDeed) [1] [2, 46] (fun pc ls st => mC (Nat.beq pc 2) (mN st <| gI ls 1 fun a1 => rt (.inl a1)) (mC (Nat.beq pc 46) (mN st <| gI ls 1 fun a1 => rt (.inr (.inl a1))) (fl))) (fun v => match v with | some (_, .int x) => rt (.inr (.inr x)) | _ => fl) 43 2 [(112, .ref 207), (0, .int y)] [] = (bn (f_R_isWord (20 : Int32)) fun v1 =>
  (if v1 = 0 then
    rt (.inr (.inl y))
  else
    (if y = (16 : Int32) then
      bn (f_R_errs (3 : Int32)) fun v3 =>
      rt (.inr (.inr v3))
    else
      bn (f_R_readDeed ((80 : Int32) + ((5 : Int32) * y))) fun v2 =>
      (if v2 = (-1 : Int32) then
        rt (.inr (.inr (-1 : Int32)))
      else
        rt (.inl (y + (1 : Int32))))))) := rfl
theorem b_R_readDiary_2 {d : Nat} (hcs : AllS L X d (cs_R_readDiary F_R_errs F_R_isWord F_R_readDeed)) {o : Option Value × PH} {Q : ((Int32) ⊕ ((Int32) ⊕ Int32)) → MI → Prop} (qb : ∀ y I, Q (.inl y) I → At L X (d + 1) 221 2 [(112, .ref 207), (0, .int y)] [] I o) (qe46 : ∀ y I, Q (.inr (.inl y)) I → At L X (d + 1) 221 46 [(112, .ref 207), (0, .int y)] [] I o) (qr : ∀ v I, Q (.inr (.inr v)) I → o = (some (.int v), HH I)) (y : Int32) (I : MI) (r : (Int32) ⊕ ((Int32) ⊕ Int32)) (I1 : MI) (h : B_R_readDiary_2 y I = some (r, I1)) (hq : Q r I1) : At L X (d + 1) 221 2 [(112, .ref 207), (0, .int y)] [] I o := by
  refine wf_ok z_R_readDiary hcs ?_ ?_ _ _ _ _ _ ⟨rfl, trivial, trivial⟩ trivial (unm_refl _ _) ((congrFun (e_b_R_readDiary_2 (L := L) (X := X) F_R_errs F_R_isWord F_R_readDeed y) I).trans h)
  · intro pc ls st I2 h1 h2 h3 h
    rcases mC_ok h with ⟨hb, h⟩ | ⟨_, h⟩
    · have e := Nat.eq_of_beq_eq_true hb
      subst e
      obtain ⟨hst, h⟩ := mN_ok h
      subst hst
      obtain ⟨a1, n1, h⟩ := gI_ok h
      refine at_leaf (ls2 := [(112, .ref 207), (0, .int a1)]) h3.1 ⟨Or.inr ⟨_, (h3.2 0 rfl).trans rfl⟩, Or.inr n1, trivial⟩ ?_
      cases h; exact qb _ _ hq
    rcases mC_ok h with ⟨hb, h⟩ | ⟨_, h⟩
    · have e := Nat.eq_of_beq_eq_true hb
      subst e
      obtain ⟨hst, h⟩ := mN_ok h
      subst hst
      obtain ⟨a1, n1, h⟩ := gI_ok h
      refine at_leaf (ls2 := [(112, .ref 207), (0, .int a1)]) h3.1 ⟨Or.inr ⟨_, (h3.2 0 rfl).trans rfl⟩, Or.inr n1, trivial⟩ ?_
      cases h; exact qe46 _ _ hq
    cases h
  · intro v I2 _ h
    split at h
    · cases h; exact qr _ _ hq
    · cases h
def K_R_readDiary_46 (x1 : Int32) : M (Int32) :=
  bn (rd 207 17) fun v1 =>
  (if v1 = 0 then
    rt x1
  else
    bn (F_R_errs (1 : Int32)) fun v2 =>
    rt v2)
set_option maxRecDepth 4000 in
theorem e_s_R_readDiary_46 (f_R_errs : Int32 → M Int32) (f_R_isWord : Int32 → M Int32) (f_R_readDeed : Int32 → M Int32) (x1 : Int32) : wf (β := Int32) L X q_R_readDiary 1 (cs_R_readDiary f_R_errs f_R_isWord f_R_readDeed) [] [2, 46] (fun _ _ _ => fl) (fun v => match v with | some (_, .int x) => rt x | _ => fl) 43 46 [(112, .ref 207), (0, .int x1)] [] = (bn (rd 207 17) fun v1 =>
  (if v1 = 0 then
    rt x1
  else
    bn (f_R_errs (1 : Int32)) fun v2 =>
    rt v2)) := rfl
theorem s_R_readDiary_46 {d : Nat} (hcs : AllS L X d (cs_R_readDiary F_R_errs F_R_isWord F_R_readDeed)) (x1 : Int32) {o : Option Value × PH} {Q : (Int32) → MI → Prop} (q0 : ∀ v I, Q v I → o = (some (.int v), HH I)) (I : MI) (r : Int32) (I1 : MI) (h : K_R_readDiary_46 x1 I = some (r, I1)) (hq : Q r I1) : At L X (d + 1) 221 46 [(112, .ref 207), (0, .int x1)] [] I o := by
  refine wf_ok z_R_readDiary hcs ?_ ?_ _ _ _ _ _ ⟨rfl, trivial, trivial⟩ trivial (unm_refl _ _) ((congrFun (e_s_R_readDiary_46 (L := L) (X := X) F_R_errs F_R_isWord F_R_readDeed x1) I).trans h)
  · intro pc ls st I2 h1 h2 h3 h
    cases h
  · intro v I2 _ h
    split at h
    · cases h; exact q0 _ _ hq
    · cases h
def K_R_readDiary_2 (x1 : Int32) : M (Int32) :=
  bn (lp (B_R_readDiary_2) FU x1) fun e => match e with
  | .inl e => K_R_readDiary_46 e
  | .inr e => rt e
theorem s_R_readDiary_2 {d : Nat} (hcs : AllS L X d (cs_R_readDiary F_R_errs F_R_isWord F_R_readDeed)) (x1 : Int32) {o : Option Value × PH} {Q : (Int32) → MI → Prop} (q0 : ∀ v I, Q v I → o = (some (.int v), HH I)) (I : MI) (r : Int32) (I1 : MI) (h : K_R_readDiary_2 x1 I = some (r, I1)) (hq : Q r I1) : At L X (d + 1) 221 2 [(112, .ref 207), (0, .int x1)] [] I o := by
  unfold K_R_readDiary_2 at h
  obtain ⟨e, I2, h1, h2⟩ := bn_some h
  have w0 := fun w => at_lp (body := B_R_readDiary_2) (P := (fun (y : Int32) I => At L X (d + 1) 221 2 [(112, .ref 207), (0, .int y)] [] I o)) (Q := (fun (e : (Int32) ⊕ Int32) I => (match e with | .inl e => K_R_readDiary_46 e | .inr e => rt e : M (Int32)) I = some (r, I1))) w FU x1 I e I2 h1 h2
  refine w0 ?_
  intro y I r2 I3 h hq2
  exact b_R_readDiary_2 hcs (Q := SQ (fun (y : Int32) I => At L X (d + 1) 221 2 [(112, .ref 207), (0, .int y)] [] I o) (fun (e : (Int32) ⊕ Int32) I => (match e with | .inl e => K_R_readDiary_46 e | .inr e => rt e : M (Int32)) I = some (r, I1))) (fun _ _ w => w) (fun y I w => s_R_readDiary_46 hcs y q0 _ _ _ w hq) (fun v I w => by cases w; exact q0 _ _ hq) y I r2 I3 h hq2
def F_R_readDiary : M (Int32) :=
  K_R_readDiary_2 (0 : Int32)
set_option maxRecDepth 4000 in
theorem e_s_R_readDiary_0 (f_R_errs : Int32 → M Int32) (f_R_isWord : Int32 → M Int32) (f_R_readDeed : Int32 → M Int32) (k_2 : Int32 → M (Int32)) : wf (β := Int32) L X q_R_readDiary 1 (cs_R_readDiary f_R_errs f_R_isWord f_R_readDeed) [1] [2, 46] (fun pc ls st => mC (Nat.beq pc 2) (mN st <| gI ls 1 fun a1 => k_2 a1) (fl)) (fun v => match v with | some (_, .int x) => rt x | _ => fl) 43 0 [(112, .ref 207), (0, dV)] [] = (k_2 (0 : Int32)) := rfl
theorem s_R_readDiary_0 {d : Nat} (hcs : AllS L X d (cs_R_readDiary F_R_errs F_R_isWord F_R_readDeed)) {o : Option Value × PH} {Q : (Int32) → MI → Prop} (q0 : ∀ v I, Q v I → o = (some (.int v), HH I)) (I : MI) (r : Int32) (I1 : MI) (h : F_R_readDiary I = some (r, I1)) (hq : Q r I1) : At L X (d + 1) 221 0 [(112, .ref 207), (0, dV)] [] I o := by
  refine wf_ok z_R_readDiary hcs ?_ ?_ _ _ _ _ _ ⟨rfl, trivial, trivial⟩ trivial (unm_refl _ _) ((congrFun (e_s_R_readDiary_0 (L := L) (X := X) F_R_errs F_R_isWord F_R_readDeed K_R_readDiary_2) I).trans h)
  · intro pc ls st I2 h1 h2 h3 h
    rcases mC_ok h with ⟨hb, h⟩ | ⟨_, h⟩
    · have e := Nat.eq_of_beq_eq_true hb
      subst e
      obtain ⟨hst, h⟩ := mN_ok h
      subst hst
      obtain ⟨a1, n1, h⟩ := gI_ok h
      refine at_leaf (ls2 := [(112, .ref 207), (0, .int a1)]) h3.1 ⟨Or.inr ⟨_, (h3.2 0 rfl).trans rfl⟩, Or.inr n1, trivial⟩ ?_
      exact s_R_readDiary_2 hcs a1 q0 _ _ _ h hq
    cases h
  · intro v I2 _ h
    split at h
    · cases h; exact q0 _ _ hq
    · cases h
theorem w_R_readDiary {d : Nat} (hcs : AllS L X d (cs_R_readDiary F_R_errs F_R_isWord F_R_readDeed)) : Snd L X (d + 1) 221 1 (W_R_readDiary F_R_readDiary) := by
  refine ⟨_, z_R_readDiary, rfl, fun β args k I r hty hlen h => ?_⟩
  unfold W_R_readDiary at h
  split at h
  · rename_i t0 a0
    obtain ⟨hb0, h⟩ := mB_ok h
    have e0 := Nat.eq_of_beq_eq_true hb0
    have g0 : okB 112 a0 = true := e0 ▸ hty.1
    have e20 := one_112 g0
    subst e20
    obtain ⟨v, I1, h1, h2⟩ := bn_some h
    refine ⟨gf_obj (c := 12) (by decide) g0, rfl, some (0, .int v), I1, trivial, ?_, h2⟩
    exact s_R_readDiary_0 hcs   (Q := fun w I => w = v ∧ I = I1) (fun w I q => by obtain ⟨rfl, rfl⟩ := q; rfl) I v I1 h1 ⟨rfl, rfl⟩
  · cases h
theorem S_R_readDiary {d : Nat} (hd : 7 ≤ d) : Snd L X d 221 1 (W_R_readDiary F_R_readDiary) := by
  obtain ⟨e, rfl⟩ : ∃ e, d = e + 1 := ⟨d - 1, by omega⟩
  exact w_R_readDiary ⟨S_R_errs (by omega), S_R_isWord (by omega), S_R_readDeed (by omega), trivial⟩
set_option maxRecDepth 100000 in
theorem z_R_isLineWord : pT[229]? = some (q_R_isLineWord, 1, 1, 2, 12) := rfl
def W_R_isLineWord (F : M Int32) : CSem := fun _ args k => match args with
  | [(t0, .ref a0)] => mB (Nat.beq t0 112) <| bn (F) fun v => k (some (0, .int v))
  | _ => fl
def cs_R_isLineWord (f_R_isIn : Int32 → Int32 → Int32 → M Int32) : List (Nat × Nat × CSem) := [(195, 4, W_R_isIn f_R_isIn)]
def F_R_isLineWord : M (Int32) :=
  bn (rd 207 17) fun v1 =>
  (if v1 = (2 : Int32) then
    bn (rd 207 18) fun v2 =>
    bn (F_R_isIn v2 (0 : Int32) (2 : Int32)) fun v3 =>
    (if v3 = 0 then
      bn (gdZ (0 : Int32)) fun _ => rt (0 : Int32)
    else
      bn (gdZ (1 : Int32)) fun _ => rt (1 : Int32))
  else
    bn (gdZ (0 : Int32)) fun _ => rt (0 : Int32))
set_option maxRecDepth 4000 in
theorem e_s_R_isLineWord_0 (f_R_isIn : Int32 → Int32 → Int32 → M Int32) : wf (β := Int32) L X q_R_isLineWord 2 (cs_R_isLineWord f_R_isIn) [] [] (fun _ _ _ => fl) (fun v => match v with | some (_, .int x) => rt x | _ => fl) 20 0 [(112, .ref 207)] [] = (bn (rd 207 17) fun v1 =>
  (if v1 = (2 : Int32) then
    bn (rd 207 18) fun v2 =>
    bn (f_R_isIn v2 (0 : Int32) (2 : Int32)) fun v3 =>
    (if v3 = 0 then
      bn (gdZ (0 : Int32)) fun _ => rt (0 : Int32)
    else
      bn (gdZ (1 : Int32)) fun _ => rt (1 : Int32))
  else
    bn (gdZ (0 : Int32)) fun _ => rt (0 : Int32))) := rfl
theorem s_R_isLineWord_0 {d : Nat} (hcs : AllS L X d (cs_R_isLineWord F_R_isIn)) {o : Option Value × PH} {Q : (Int32) → MI → Prop} (q0 : ∀ v I, Q v I → o = (some (.int v), HH I)) (I : MI) (r : Int32) (I1 : MI) (h : F_R_isLineWord I = some (r, I1)) (hq : Q r I1) : At L X (d + 1) 229 0 [(112, .ref 207)] [] I o := by
  refine wf_ok z_R_isLineWord hcs ?_ ?_ _ _ _ _ _ ⟨rfl, trivial⟩ trivial (unm_refl _ _) ((congrFun (e_s_R_isLineWord_0 (L := L) (X := X) F_R_isIn) I).trans h)
  · intro pc ls st I2 h1 h2 h3 h
    cases h
  · intro v I2 _ h
    split at h
    · cases h; exact q0 _ _ hq
    · cases h
theorem w_R_isLineWord {d : Nat} (hcs : AllS L X d (cs_R_isLineWord F_R_isIn)) : Snd L X (d + 1) 229 1 (W_R_isLineWord F_R_isLineWord) := by
  refine ⟨_, z_R_isLineWord, rfl, fun β args k I r hty hlen h => ?_⟩
  unfold W_R_isLineWord at h
  split at h
  · rename_i t0 a0
    obtain ⟨hb0, h⟩ := mB_ok h
    have e0 := Nat.eq_of_beq_eq_true hb0
    have g0 : okB 112 a0 = true := e0 ▸ hty.1
    have e20 := one_112 g0
    subst e20
    obtain ⟨v, I1, h1, h2⟩ := bn_some h
    refine ⟨gf_obj (c := 12) (by decide) g0, rfl, some (0, .int v), I1, trivial, ?_, h2⟩
    exact s_R_isLineWord_0 hcs   (Q := fun w I => w = v ∧ I = I1) (fun w I q => by obtain ⟨rfl, rfl⟩ := q; rfl) I v I1 h1 ⟨rfl, rfl⟩
  · cases h
theorem S_R_isLineWord {d : Nat} (hd : 2 ≤ d) : Snd L X d 229 1 (W_R_isLineWord F_R_isLineWord) := by
  obtain ⟨e, rfl⟩ : ∃ e, d = e + 1 := ⟨d - 1, by omega⟩
  exact w_R_isLineWord ⟨S_R_isIn (by omega), trivial⟩
set_option maxRecDepth 100000 in
theorem z_R_emits : pT[234]? = some (q_R_emits, 3, 3, 0, 12) := rfl
def W_R_emits (F : Int32 → Int32 → M Unit) : CSem := fun _ args k => match args with
  | [(t0, .ref a0), (_, .int a1), (_, .int a2)] => mB (Nat.beq t0 112) <| bn (F a1 a2) fun _ => k none
  | _ => fl
def cs_R_emits : List (Nat × Nat × CSem) := []
def F_R_emits (x1 : Int32) (x2 : Int32) : M (Unit) :=
  bn (rd 207 28) fun v1 =>
  bn (sr 1200 223 ((800 : Int32) + v1) x1) fun _ =>
  bn (rd 207 28) fun v2 =>
  bn (sr 1200 224 ((800 : Int32) + v2) x2) fun _ =>
  bn (rd 207 28) fun v3 =>
  bn (wr 207 28 (v3 + (1 : Int32))) fun _ =>
  rt ()
set_option maxRecDepth 4000 in
theorem e_s_R_emits_0 (x1 : Int32) (x2 : Int32) : wf (β := Unit) L X q_R_emits 0 cs_R_emits [] [] (fun _ _ _ => fl) (fun v => match v with | none => rt () | _ => fl) 28 0 [(112, .ref 207), (0, .int x1), (0, .int x2)] [] = (bn (rd 207 28) fun v1 =>
  bn (sr 1200 223 ((800 : Int32) + v1) x1) fun _ =>
  bn (rd 207 28) fun v2 =>
  bn (sr 1200 224 ((800 : Int32) + v2) x2) fun _ =>
  bn (rd 207 28) fun v3 =>
  bn (wr 207 28 (v3 + (1 : Int32))) fun _ =>
  rt ()) := rfl
theorem s_R_emits_0 {d : Nat} (hcs : AllS L X d cs_R_emits) (x1 : Int32) (x2 : Int32) {o : Option Value × PH} {Q : (Unit) → MI → Prop} (q0 : ∀ v I, Q v I → o = (none, HH I)) (I : MI) (r : Unit) (I1 : MI) (h : F_R_emits x1 x2 I = some (r, I1)) (hq : Q r I1) : At L X (d + 1) 234 0 [(112, .ref 207), (0, .int x1), (0, .int x2)] [] I o := by
  refine wf_ok z_R_emits hcs ?_ ?_ _ _ _ _ _ ⟨rfl, trivial, trivial, trivial⟩ trivial (unm_refl _ _) ((congrFun (e_s_R_emits_0 (L := L) (X := X) x1 x2) I).trans h)
  · intro pc ls st I2 h1 h2 h3 h
    cases h
  · intro v I2 _ h
    split at h
    · cases h; exact q0 _ _ hq
    · cases h
theorem w_R_emits {d : Nat} (hcs : AllS L X d cs_R_emits) : Snd L X (d + 1) 234 3 (W_R_emits F_R_emits) := by
  refine ⟨_, z_R_emits, rfl, fun β args k I r hty hlen h => ?_⟩
  unfold W_R_emits at h
  split at h
  · rename_i t0 a0 u1 a1 u2 a2
    obtain ⟨hb0, h⟩ := mB_ok h
    have e0 := Nat.eq_of_beq_eq_true hb0
    have g0 : okB 112 a0 = true := e0 ▸ hty.1
    have e20 := one_112 g0
    subst e20
    obtain ⟨v, I1, h1, h2⟩ := bn_some h
    refine ⟨gf_obj (c := 12) (by decide) g0, rfl, none, I1, trivial, ?_, h2⟩
    exact s_R_emits_0 hcs a1 a2  (Q := fun w I => w = v ∧ I = I1) (fun w I q => by obtain ⟨rfl, rfl⟩ := q; rfl) I v I1 h1 ⟨rfl, rfl⟩
  · cases h
theorem S_R_emits {d : Nat} (hd : 1 ≤ d) : Snd L X d 234 3 (W_R_emits F_R_emits) := by
  obtain ⟨e, rfl⟩ : ∃ e, d = e + 1 := ⟨d - 1, by omega⟩
  exact w_R_emits trivial
set_option maxRecDepth 100000 in
theorem z_R_canAsk : pT[233]? = some (q_R_canAsk, 2, 2, 2, 12) := rfl
def W_R_canAsk (F : Int32 → M Int32) : CSem := fun _ args k => match args with
  | [(t0, .ref a0), (_, .int a1)] => mB (Nat.beq t0 112) <| bn (F a1) fun v => k (some (0, .int v))
  | _ => fl
def cs_R_canAsk (f_R_isIn : Int32 → Int32 → Int32 → M Int32) : List (Nat × Nat × CSem) := [(195, 4, W_R_isIn f_R_isIn)]
def F_R_canAsk (x1 : Int32) : M (Int32) :=
  bn (F_R_isIn x1 (7 : Int32) (15 : Int32)) fun v1 =>
  bn (gdZ v1) fun _ => rt v1
set_option maxRecDepth 4000 in
theorem e_s_R_canAsk_0 (f_R_isIn : Int32 → Int32 → Int32 → M Int32) (x1 : Int32) : wf (β := Int32) L X q_R_canAsk 2 (cs_R_canAsk f_R_isIn) [] [] (fun _ _ _ => fl) (fun v => match v with | some (_, .int x) => rt x | _ => fl) 11 0 [(112, .ref 207), (0, .int x1)] [] = (bn (f_R_isIn x1 (7 : Int32) (15 : Int32)) fun v1 =>
  bn (gdZ v1) fun _ => rt v1) := rfl
theorem s_R_canAsk_0 {d : Nat} (hcs : AllS L X d (cs_R_canAsk F_R_isIn)) (x1 : Int32) {o : Option Value × PH} {Q : (Int32) → MI → Prop} (q0 : ∀ v I, Q v I → o = (some (.int v), HH I)) (I : MI) (r : Int32) (I1 : MI) (h : F_R_canAsk x1 I = some (r, I1)) (hq : Q r I1) : At L X (d + 1) 233 0 [(112, .ref 207), (0, .int x1)] [] I o := by
  refine wf_ok z_R_canAsk hcs ?_ ?_ _ _ _ _ _ ⟨rfl, trivial, trivial⟩ trivial (unm_refl _ _) ((congrFun (e_s_R_canAsk_0 (L := L) (X := X) F_R_isIn x1) I).trans h)
  · intro pc ls st I2 h1 h2 h3 h
    cases h
  · intro v I2 _ h
    split at h
    · cases h; exact q0 _ _ hq
    · cases h
theorem w_R_canAsk {d : Nat} (hcs : AllS L X d (cs_R_canAsk F_R_isIn)) : Snd L X (d + 1) 233 2 (W_R_canAsk F_R_canAsk) := by
  refine ⟨_, z_R_canAsk, rfl, fun β args k I r hty hlen h => ?_⟩
  unfold W_R_canAsk at h
  split at h
  · rename_i t0 a0 u1 a1
    obtain ⟨hb0, h⟩ := mB_ok h
    have e0 := Nat.eq_of_beq_eq_true hb0
    have g0 : okB 112 a0 = true := e0 ▸ hty.1
    have e20 := one_112 g0
    subst e20
    obtain ⟨v, I1, h1, h2⟩ := bn_some h
    refine ⟨gf_obj (c := 12) (by decide) g0, rfl, some (0, .int v), I1, trivial, ?_, h2⟩
    exact s_R_canAsk_0 hcs a1  (Q := fun w I => w = v ∧ I = I1) (fun w I q => by obtain ⟨rfl, rfl⟩ := q; rfl) I v I1 h1 ⟨rfl, rfl⟩
  · cases h
theorem S_R_canAsk {d : Nat} (hd : 2 ≤ d) : Snd L X d 233 2 (W_R_canAsk F_R_canAsk) := by
  obtain ⟨e, rfl⟩ : ∃ e, d = e + 1 := ⟨d - 1, by omega⟩
  exact w_R_canAsk ⟨S_R_isIn (by omega), trivial⟩
set_option maxRecDepth 100000 in
theorem z_R_readUnit : pT[232]? = some (q_R_readUnit, 1, 2, 1, 12) := rfl
def W_R_readUnit (F : M Int32) : CSem := fun _ args k => match args with
  | [(t0, .ref a0)] => mB (Nat.beq t0 112) <| bn (F) fun v => k (some (0, .int v))
  | _ => fl
def cs_R_readUnit (f_R_canAsk : Int32 → M Int32) (f_R_emits : Int32 → Int32 → M Unit) (f_R_errs : Int32 → M Int32) (f_R_reads : M Unit) : List (Nat × Nat × CSem) := [(233, 2, W_R_canAsk f_R_canAsk), (234, 3, W_R_emits f_R_emits), (215, 2, W_R_errs f_R_errs), (207, 1, W_R_reads f_R_reads)]
def K_R_readUnit_43 (x1 : Int32) : M (Int32) :=
  (if x1 = 0 then
    (if x1 = 0 then
      bn (rd 207 18) fun v1 =>
      bn (F_R_emits (0 : Int32) v1) fun _ =>
      bn (F_R_reads) fun _ =>
      rt (0 : Int32)
    else
      bn (rd 207 18) fun v2 =>
      bn (F_R_emits (0 : Int32) (v2 - (7 : Int32))) fun _ =>
      bn (F_R_reads) fun _ =>
      rt (0 : Int32))
  else
    (if x1 = 0 then
      bn (rd 207 18) fun v3 =>
      bn (F_R_emits (1 : Int32) v3) fun _ =>
      bn (F_R_reads) fun _ =>
      rt (0 : Int32)
    else
      bn (rd 207 18) fun v4 =>
      bn (F_R_emits (1 : Int32) (v4 - (7 : Int32))) fun _ =>
      bn (F_R_reads) fun _ =>
      rt (0 : Int32)))
set_option maxRecDepth 4000 in
theorem e_s_R_readUnit_43 (f_R_canAsk : Int32 → M Int32) (f_R_emits : Int32 → Int32 → M Unit) (f_R_errs : Int32 → M Int32) (f_R_reads : M Unit) (x1 : Int32) : wf (β := Int32) L X q_R_readUnit 1 (cs_R_readUnit f_R_canAsk f_R_emits f_R_errs f_R_reads) [] [43] (fun _ _ _ => fl) (fun v => match v with | some (_, .int x) => rt x | _ => fl) 48 43 [(112, .ref 207), (0, .int x1)] [] = ((if x1 = 0 then
    (if x1 = 0 then
      bn (rd 207 18) fun v1 =>
      bn (f_R_emits (0 : Int32) v1) fun _ =>
      bn (f_R_reads) fun _ =>
      rt (0 : Int32)
    else
      bn (rd 207 18) fun v2 =>
      bn (f_R_emits (0 : Int32) (v2 - (7 : Int32))) fun _ =>
      bn (f_R_reads) fun _ =>
      rt (0 : Int32))
  else
    (if x1 = 0 then
      bn (rd 207 18) fun v3 =>
      bn (f_R_emits (1 : Int32) v3) fun _ =>
      bn (f_R_reads) fun _ =>
      rt (0 : Int32)
    else
      bn (rd 207 18) fun v4 =>
      bn (f_R_emits (1 : Int32) (v4 - (7 : Int32))) fun _ =>
      bn (f_R_reads) fun _ =>
      rt (0 : Int32)))) := rfl
theorem s_R_readUnit_43 {d : Nat} (hcs : AllS L X d (cs_R_readUnit F_R_canAsk F_R_emits F_R_errs F_R_reads)) (x1 : Int32) {o : Option Value × PH} {Q : (Int32) → MI → Prop} (q0 : ∀ v I, Q v I → o = (some (.int v), HH I)) (I : MI) (r : Int32) (I1 : MI) (h : K_R_readUnit_43 x1 I = some (r, I1)) (hq : Q r I1) : At L X (d + 1) 232 43 [(112, .ref 207), (0, .int x1)] [] I o := by
  refine wf_ok z_R_readUnit hcs ?_ ?_ _ _ _ _ _ ⟨rfl, trivial, trivial⟩ trivial (unm_refl _ _) ((congrFun (e_s_R_readUnit_43 (L := L) (X := X) F_R_canAsk F_R_emits F_R_errs F_R_reads x1) I).trans h)
  · intro pc ls st I2 h1 h2 h3 h
    cases h
  · intro v I2 _ h
    split at h
    · cases h; exact q0 _ _ hq
    · cases h
def F_R_readUnit : M (Int32) :=
  bn (rd 207 17) fun v1 =>
  (if v1 = (2 : Int32) then
    bn (rd 207 18) fun v4 =>
    bn (F_R_canAsk v4) fun v5 =>
    (if v5 = 0 then
      (if (0 : Int32) = 0 then
        bn (rd 207 17) fun v6 =>
        (if v6 = (3 : Int32) then
          K_R_readUnit_43 (0 : Int32)
        else
          bn (F_R_errs (1 : Int32)) fun v7 =>
          rt v7)
      else
        K_R_readUnit_43 (0 : Int32))
    else
      (if (1 : Int32) = 0 then
        bn (rd 207 17) fun v8 =>
        (if v8 = (3 : Int32) then
          K_R_readUnit_43 (1 : Int32)
        else
          bn (F_R_errs (1 : Int32)) fun v9 =>
          rt v9)
      else
        K_R_readUnit_43 (1 : Int32)))
  else
    (if (0 : Int32) = 0 then
      bn (rd 207 17) fun v2 =>
      (if v2 = (3 : Int32) then
        K_R_readUnit_43 (0 : Int32)
      else
        bn (F_R_errs (1 : Int32)) fun v3 =>
        rt v3)
    else
      K_R_readUnit_43 (0 : Int32)))
set_option maxRecDepth 4000 in
theorem e_s_R_readUnit_0 (f_R_canAsk : Int32 → M Int32) (f_R_emits : Int32 → Int32 → M Unit) (f_R_errs : Int32 → M Int32) (f_R_reads : M Unit) (k_43 : Int32 → M (Int32)) : wf (β := Int32) L X q_R_readUnit 1 (cs_R_readUnit f_R_canAsk f_R_emits f_R_errs f_R_reads) [1] [43] (fun pc ls st => mC (Nat.beq pc 43) (mN st <| gI ls 1 fun a1 => k_43 a1) (fl)) (fun v => match v with | some (_, .int x) => rt x | _ => fl) 48 0 [(112, .ref 207), (0, dV)] [] = (bn (rd 207 17) fun v1 =>
  (if v1 = (2 : Int32) then
    bn (rd 207 18) fun v4 =>
    bn (f_R_canAsk v4) fun v5 =>
    (if v5 = 0 then
      (if (0 : Int32) = 0 then
        bn (rd 207 17) fun v6 =>
        (if v6 = (3 : Int32) then
          k_43 (0 : Int32)
        else
          bn (f_R_errs (1 : Int32)) fun v7 =>
          rt v7)
      else
        k_43 (0 : Int32))
    else
      (if (1 : Int32) = 0 then
        bn (rd 207 17) fun v8 =>
        (if v8 = (3 : Int32) then
          k_43 (1 : Int32)
        else
          bn (f_R_errs (1 : Int32)) fun v9 =>
          rt v9)
      else
        k_43 (1 : Int32)))
  else
    (if (0 : Int32) = 0 then
      bn (rd 207 17) fun v2 =>
      (if v2 = (3 : Int32) then
        k_43 (0 : Int32)
      else
        bn (f_R_errs (1 : Int32)) fun v3 =>
        rt v3)
    else
      k_43 (0 : Int32)))) := rfl
theorem s_R_readUnit_0 {d : Nat} (hcs : AllS L X d (cs_R_readUnit F_R_canAsk F_R_emits F_R_errs F_R_reads)) {o : Option Value × PH} {Q : (Int32) → MI → Prop} (q0 : ∀ v I, Q v I → o = (some (.int v), HH I)) (I : MI) (r : Int32) (I1 : MI) (h : F_R_readUnit I = some (r, I1)) (hq : Q r I1) : At L X (d + 1) 232 0 [(112, .ref 207), (0, dV)] [] I o := by
  refine wf_ok z_R_readUnit hcs ?_ ?_ _ _ _ _ _ ⟨rfl, trivial, trivial⟩ trivial (unm_refl _ _) ((congrFun (e_s_R_readUnit_0 (L := L) (X := X) F_R_canAsk F_R_emits F_R_errs F_R_reads K_R_readUnit_43) I).trans h)
  · intro pc ls st I2 h1 h2 h3 h
    rcases mC_ok h with ⟨hb, h⟩ | ⟨_, h⟩
    · have e := Nat.eq_of_beq_eq_true hb
      subst e
      obtain ⟨hst, h⟩ := mN_ok h
      subst hst
      obtain ⟨a1, n1, h⟩ := gI_ok h
      refine at_leaf (ls2 := [(112, .ref 207), (0, .int a1)]) h3.1 ⟨Or.inr ⟨_, (h3.2 0 rfl).trans rfl⟩, Or.inr n1, trivial⟩ ?_
      exact s_R_readUnit_43 hcs a1 q0 _ _ _ h hq
    cases h
  · intro v I2 _ h
    split at h
    · cases h; exact q0 _ _ hq
    · cases h
theorem w_R_readUnit {d : Nat} (hcs : AllS L X d (cs_R_readUnit F_R_canAsk F_R_emits F_R_errs F_R_reads)) : Snd L X (d + 1) 232 1 (W_R_readUnit F_R_readUnit) := by
  refine ⟨_, z_R_readUnit, rfl, fun β args k I r hty hlen h => ?_⟩
  unfold W_R_readUnit at h
  split at h
  · rename_i t0 a0
    obtain ⟨hb0, h⟩ := mB_ok h
    have e0 := Nat.eq_of_beq_eq_true hb0
    have g0 : okB 112 a0 = true := e0 ▸ hty.1
    have e20 := one_112 g0
    subst e20
    obtain ⟨v, I1, h1, h2⟩ := bn_some h
    refine ⟨gf_obj (c := 12) (by decide) g0, rfl, some (0, .int v), I1, trivial, ?_, h2⟩
    exact s_R_readUnit_0 hcs   (Q := fun w I => w = v ∧ I = I1) (fun w I q => by obtain ⟨rfl, rfl⟩ := q; rfl) I v I1 h1 ⟨rfl, rfl⟩
  · cases h
theorem S_R_readUnit {d : Nat} (hd : 4 ≤ d) : Snd L X d 232 1 (W_R_readUnit F_R_readUnit) := by
  obtain ⟨e, rfl⟩ : ∃ e, d = e + 1 := ⟨d - 1, by omega⟩
  exact w_R_readUnit ⟨S_R_canAsk (by omega), S_R_emits (by omega), S_R_errs (by omega), S_R_reads (by omega), trivial⟩
set_option maxRecDepth 100000 in
theorem z_R_readProduct : pT[231]? = some (q_R_readProduct, 1, 2, 1, 12) := rfl
def W_R_readProduct (F : M Int32) : CSem := fun _ args k => match args with
  | [(t0, .ref a0)] => mB (Nat.beq t0 112) <| bn (F) fun v => k (some (0, .int v))
  | _ => fl
def cs_R_readProduct (f_R_emits : Int32 → Int32 → M Unit) (f_R_errs : Int32 → M Int32) (f_R_isSign : Int32 → M Int32) (f_R_readUnit : M Int32) (f_R_reads : M Unit) : List (Nat × Nat × CSem) := [(234, 3, W_R_emits f_R_emits), (215, 2, W_R_errs f_R_errs), (220, 2, W_R_isSign f_R_isSign), (232, 1, W_R_readUnit f_R_readUnit), (207, 1, W_R_reads f_R_reads)]
def K_R_readProduct_74 (x1 : Int32) : M ((Unit) ⊕ (Int32)) :=
  bn (F_R_readUnit) fun v1 =>
  (if v1 = (-1 : Int32) then
    rt (.inr (-1 : Int32))
  else
    (if x1 = 0 then
      bn (F_R_emits (5 : Int32) (0 : Int32)) fun _ =>
      rt (.inl ())
    else
      bn (F_R_emits (4 : Int32) (0 : Int32)) fun _ =>
      rt (.inl ())))
set_option maxRecDepth 4000 in
theorem e_s_R_readProduct_74 (f_R_emits : Int32 → Int32 → M Unit) (f_R_errs : Int32 → M Int32) (f_R_isSign : Int32 → M Int32) (f_R_readUnit : M Int32) (f_R_reads : M Unit) (x1 : Int32) : wf (β := (Unit) ⊕ (Int32)) L X q_R_readProduct 1 (cs_R_readProduct f_R_emits f_R_errs f_R_isSign f_R_readUnit f_R_reads) [] [10, 28, 74] (fun pc ls st => mC (Nat.beq pc 10) (mN st <| gD ls 1 <| rt (.inl ())) (fl)) (fun v => match v with | some (_, .int x) => rt (.inr x) | _ => fl) 61 74 [(112, .ref 207), (0, .int x1)] [] = (bn (f_R_readUnit) fun v1 =>
  (if v1 = (-1 : Int32) then
    rt (.inr (-1 : Int32))
  else
    (if x1 = 0 then
      bn (f_R_emits (5 : Int32) (0 : Int32)) fun _ =>
      rt (.inl ())
    else
      bn (f_R_emits (4 : Int32) (0 : Int32)) fun _ =>
      rt (.inl ())))) := rfl
theorem s_R_readProduct_74 {d : Nat} (hcs : AllS L X d (cs_R_readProduct F_R_emits F_R_errs F_R_isSign F_R_readUnit F_R_reads)) (x1 : Int32) {o : Option Value × PH} {Q : ((Unit) ⊕ (Int32)) → MI → Prop} (qb : ∀ y I, Q (.inl y) I → At L X (d + 1) 231 10 [(112, .ref 207), (0, dV)] [] I o) (qr : ∀ v I, Q (.inr v) I → o = (some (.int v), HH I)) (I : MI) (r : (Unit) ⊕ (Int32)) (I1 : MI) (h : K_R_readProduct_74 x1 I = some (r, I1)) (hq : Q r I1) : At L X (d + 1) 231 74 [(112, .ref 207), (0, .int x1)] [] I o := by
  refine wf_ok z_R_readProduct hcs ?_ ?_ _ _ _ _ _ ⟨rfl, trivial, trivial⟩ trivial (unm_refl _ _) ((congrFun (e_s_R_readProduct_74 (L := L) (X := X) F_R_emits F_R_errs F_R_isSign F_R_readUnit F_R_reads x1) I).trans h)
  · intro pc ls st I2 h1 h2 h3 h
    rcases mC_ok h with ⟨hb, h⟩ | ⟨_, h⟩
    · have e := Nat.eq_of_beq_eq_true hb
      subst e
      obtain ⟨hst, h⟩ := mN_ok h
      subst hst
      obtain ⟨n1, h⟩ := gD_ok h
      refine at_leaf (ls2 := [(112, .ref 207), (0, dV)]) h3.1 ⟨Or.inr ⟨_, (h3.2 0 rfl).trans rfl⟩, Or.inl ⟨rfl, n1⟩, trivial⟩ ?_
      cases h; exact qb _ _ hq
    cases h
  · intro v I2 _ h
    split at h
    · cases h; exact qr _ _ hq
    · cases h
def K_R_readProduct_28 : M ((Unit) ⊕ (Int32)) :=
  bn (F_R_isSign (42 : Int32)) fun v1 =>
  bn (F_R_reads) fun _ =>
  (if v1 = 0 then
    bn (rd 207 17) fun v4 =>
    (if v4 = (3 : Int32) then
      (if v1 = 0 then
        bn (rd 207 18) fun v5 =>
        (if v5 = 0 then
          bn (F_R_errs (2 : Int32)) fun v6 =>
          rt (.inr v6)
        else
          K_R_readProduct_74 v1)
      else
        K_R_readProduct_74 v1)
    else
      bn (F_R_errs (1 : Int32)) fun v7 =>
      rt (.inr v7))
  else
    (if v1 = 0 then
      bn (rd 207 18) fun v2 =>
      (if v2 = 0 then
        bn (F_R_errs (2 : Int32)) fun v3 =>
        rt (.inr v3)
      else
        K_R_readProduct_74 v1)
    else
      K_R_readProduct_74 v1))
set_option maxRecDepth 4000 in
theorem e_s_R_readProduct_28 (f_R_emits : Int32 → Int32 → M Unit) (f_R_errs : Int32 → M Int32) (f_R_isSign : Int32 → M Int32) (f_R_readUnit : M Int32) (f_R_reads : M Unit) (k_74 : Int32 → M ((Unit) ⊕ (Int32))) : wf (β := (Unit) ⊕ (Int32)) L X q_R_readProduct 1 (cs_R_readProduct f_R_emits f_R_errs f_R_isSign f_R_readUnit f_R_reads) [1] [10, 28, 74] (fun pc ls st => mC (Nat.beq pc 74) (mN st <| gI ls 1 fun a1 => k_74 a1) (fl)) (fun v => match v with | some (_, .int x) => rt (.inr x) | _ => fl) 61 28 [(112, .ref 207), (0, dV)] [] = (bn (f_R_isSign (42 : Int32)) fun v1 =>
  bn (f_R_reads) fun _ =>
  (if v1 = 0 then
    bn (rd 207 17) fun v4 =>
    (if v4 = (3 : Int32) then
      (if v1 = 0 then
        bn (rd 207 18) fun v5 =>
        (if v5 = 0 then
          bn (f_R_errs (2 : Int32)) fun v6 =>
          rt (.inr v6)
        else
          k_74 v1)
      else
        k_74 v1)
    else
      bn (f_R_errs (1 : Int32)) fun v7 =>
      rt (.inr v7))
  else
    (if v1 = 0 then
      bn (rd 207 18) fun v2 =>
      (if v2 = 0 then
        bn (f_R_errs (2 : Int32)) fun v3 =>
        rt (.inr v3)
      else
        k_74 v1)
    else
      k_74 v1))) := rfl
theorem s_R_readProduct_28 {d : Nat} (hcs : AllS L X d (cs_R_readProduct F_R_emits F_R_errs F_R_isSign F_R_readUnit F_R_reads)) {o : Option Value × PH} {Q : ((Unit) ⊕ (Int32)) → MI → Prop} (qb : ∀ y I, Q (.inl y) I → At L X (d + 1) 231 10 [(112, .ref 207), (0, dV)] [] I o) (qr : ∀ v I, Q (.inr v) I → o = (some (.int v), HH I)) (I : MI) (r : (Unit) ⊕ (Int32)) (I1 : MI) (h : K_R_readProduct_28 I = some (r, I1)) (hq : Q r I1) : At L X (d + 1) 231 28 [(112, .ref 207), (0, dV)] [] I o := by
  refine wf_ok z_R_readProduct hcs ?_ ?_ _ _ _ _ _ ⟨rfl, trivial, trivial⟩ trivial (unm_refl _ _) ((congrFun (e_s_R_readProduct_28 (L := L) (X := X) F_R_emits F_R_errs F_R_isSign F_R_readUnit F_R_reads K_R_readProduct_74) I).trans h)
  · intro pc ls st I2 h1 h2 h3 h
    rcases mC_ok h with ⟨hb, h⟩ | ⟨_, h⟩
    · have e := Nat.eq_of_beq_eq_true hb
      subst e
      obtain ⟨hst, h⟩ := mN_ok h
      subst hst
      obtain ⟨a1, n1, h⟩ := gI_ok h
      refine at_leaf (ls2 := [(112, .ref 207), (0, .int a1)]) h3.1 ⟨Or.inr ⟨_, (h3.2 0 rfl).trans rfl⟩, Or.inr n1, trivial⟩ ?_
      exact s_R_readProduct_74 hcs a1 qb qr _ _ _ h hq
    cases h
  · intro v I2 _ h
    split at h
    · cases h; exact qr _ _ hq
    · cases h
def B_R_readProduct_10 (y : Unit) : M ((Unit) ⊕ (Int32)) :=
  bn (F_R_isSign (42 : Int32)) fun v1 =>
  (if v1 = 0 then
    bn (F_R_isSign (47 : Int32)) fun v2 =>
    (if v2 = 0 then
      rt (.inr (0 : Int32))
    else
      K_R_readProduct_28)
  else
    K_R_readProduct_28)
set_option maxRecDepth 4000 in
theorem e_b_R_readProduct_10 (f_R_emits : Int32 → Int32 → M Unit) (f_R_errs : Int32 → M Int32) (f_R_isSign : Int32 → M Int32) (f_R_readUnit : M Int32) (f_R_reads : M Unit) (k_28 : M ((Unit) ⊕ (Int32))) (y : Unit) : wf (β := (Unit) ⊕ (Int32)) L X q_R_readProduct 1 (cs_R_readProduct f_R_emits f_R_errs f_R_isSign f_R_readUnit f_R_reads) [] [10, 28, 74] (fun pc ls st => mC (Nat.beq pc 28) (mN st <| gD ls 1 <| k_28) (fl)) (fun v => match v with | some (_, .int x) => rt (.inr x) | _ => fl) 61 10 [(112, .ref 207), (0, dV)] [] = (bn (f_R_isSign (42 : Int32)) fun v1 =>
  (if v1 = 0 then
    bn (f_R_isSign (47 : Int32)) fun v2 =>
    (if v2 = 0 then
      rt (.inr (0 : Int32))
    else
      k_28)
  else
    k_28)) := rfl
theorem b_R_readProduct_10 {d : Nat} (hcs : AllS L X d (cs_R_readProduct F_R_emits F_R_errs F_R_isSign F_R_readUnit F_R_reads)) {o : Option Value × PH} {Q : ((Unit) ⊕ (Int32)) → MI → Prop} (qb : ∀ y I, Q (.inl y) I → At L X (d + 1) 231 10 [(112, .ref 207), (0, dV)] [] I o) (qr : ∀ v I, Q (.inr v) I → o = (some (.int v), HH I)) (y : Unit) (I : MI) (r : (Unit) ⊕ (Int32)) (I1 : MI) (h : B_R_readProduct_10 y I = some (r, I1)) (hq : Q r I1) : At L X (d + 1) 231 10 [(112, .ref 207), (0, dV)] [] I o := by
  refine wf_ok z_R_readProduct hcs ?_ ?_ _ _ _ _ _ ⟨rfl, trivial, trivial⟩ trivial (unm_refl _ _) ((congrFun (e_b_R_readProduct_10 (L := L) (X := X) F_R_emits F_R_errs F_R_isSign F_R_readUnit F_R_reads K_R_readProduct_28 y) I).trans h)
  · intro pc ls st I2 h1 h2 h3 h
    rcases mC_ok h with ⟨hb, h⟩ | ⟨_, h⟩
    · have e := Nat.eq_of_beq_eq_true hb
      subst e
      obtain ⟨hst, h⟩ := mN_ok h
      subst hst
      obtain ⟨n1, h⟩ := gD_ok h
      refine at_leaf (ls2 := [(112, .ref 207), (0, dV)]) h3.1 ⟨Or.inr ⟨_, (h3.2 0 rfl).trans rfl⟩, Or.inl ⟨rfl, n1⟩, trivial⟩ ?_
      exact s_R_readProduct_28 hcs qb qr _ _ _ h hq
    cases h
  · intro v I2 _ h
    split at h
    · cases h; exact qr _ _ hq
    · cases h
def K_R_readProduct_10 : M (Int32) :=
  lp (B_R_readProduct_10) FU ()
theorem s_R_readProduct_10 {d : Nat} (hcs : AllS L X d (cs_R_readProduct F_R_emits F_R_errs F_R_isSign F_R_readUnit F_R_reads)) {o : Option Value × PH} {Q : (Int32) → MI → Prop} (q0 : ∀ v I, Q v I → o = (some (.int v), HH I)) (I : MI) (r : Int32) (I1 : MI) (h : K_R_readProduct_10 I = some (r, I1)) (hq : Q r I1) : At L X (d + 1) 231 10 [(112, .ref 207), (0, dV)] [] I o := by
  unfold K_R_readProduct_10 at h
  have w0 := fun w => at_lp (body := B_R_readProduct_10) (P := (fun (y : Unit) I => At L X (d + 1) 231 10 [(112, .ref 207), (0, dV)] [] I o)) (Q := (fun (e : Int32) I => Q e I)) w FU () I r I1 h hq
  refine w0 ?_
  intro y I r I1 h hq
  exact b_R_readProduct_10 hcs (Q := SQ (fun (y : Unit) I => At L X (d + 1) 231 10 [(112, .ref 207), (0, dV)] [] I o) (fun (e : Int32) I => Q e I)) (fun _ _ w => w) q0 y I r I1 h hq
def F_R_readProduct : M (Int32) :=
  bn (F_R_readUnit) fun v1 =>
  (if v1 = (-1 : Int32) then
    rt (-1 : Int32)
  else
    K_R_readProduct_10)
set_option maxRecDepth 4000 in
theorem e_s_R_readProduct_0 (f_R_emits : Int32 → Int32 → M Unit) (f_R_errs : Int32 → M Int32) (f_R_isSign : Int32 → M Int32) (f_R_readUnit : M Int32) (f_R_reads : M Unit) (k_10 : M (Int32)) : wf (β := Int32) L X q_R_readProduct 1 (cs_R_readProduct f_R_emits f_R_errs f_R_isSign f_R_readUnit f_R_reads) [] [10, 28, 74] (fun pc ls st => mC (Nat.beq pc 10) (mN st <| gD ls 1 <| k_10) (fl)) (fun v => match v with | some (_, .int x) => rt x | _ => fl) 61 0 [(112, .ref 207), (0, dV)] [] = (bn (f_R_readUnit) fun v1 =>
  (if v1 = (-1 : Int32) then
    rt (-1 : Int32)
  else
    k_10)) := rfl
theorem s_R_readProduct_0 {d : Nat} (hcs : AllS L X d (cs_R_readProduct F_R_emits F_R_errs F_R_isSign F_R_readUnit F_R_reads)) {o : Option Value × PH} {Q : (Int32) → MI → Prop} (q0 : ∀ v I, Q v I → o = (some (.int v), HH I)) (I : MI) (r : Int32) (I1 : MI) (h : F_R_readProduct I = some (r, I1)) (hq : Q r I1) : At L X (d + 1) 231 0 [(112, .ref 207), (0, dV)] [] I o := by
  refine wf_ok z_R_readProduct hcs ?_ ?_ _ _ _ _ _ ⟨rfl, trivial, trivial⟩ trivial (unm_refl _ _) ((congrFun (e_s_R_readProduct_0 (L := L) (X := X) F_R_emits F_R_errs F_R_isSign F_R_readUnit F_R_reads K_R_readProduct_10) I).trans h)
  · intro pc ls st I2 h1 h2 h3 h
    rcases mC_ok h with ⟨hb, h⟩ | ⟨_, h⟩
    · have e := Nat.eq_of_beq_eq_true hb
      subst e
      obtain ⟨hst, h⟩ := mN_ok h
      subst hst
      obtain ⟨n1, h⟩ := gD_ok h
      refine at_leaf (ls2 := [(112, .ref 207), (0, dV)]) h3.1 ⟨Or.inr ⟨_, (h3.2 0 rfl).trans rfl⟩, Or.inl ⟨rfl, n1⟩, trivial⟩ ?_
      exact s_R_readProduct_10 hcs q0 _ _ _ h hq
    cases h
  · intro v I2 _ h
    split at h
    · cases h; exact q0 _ _ hq
    · cases h
theorem w_R_readProduct {d : Nat} (hcs : AllS L X d (cs_R_readProduct F_R_emits F_R_errs F_R_isSign F_R_readUnit F_R_reads)) : Snd L X (d + 1) 231 1 (W_R_readProduct F_R_readProduct) := by
  refine ⟨_, z_R_readProduct, rfl, fun β args k I r hty hlen h => ?_⟩
  unfold W_R_readProduct at h
  split at h
  · rename_i t0 a0
    obtain ⟨hb0, h⟩ := mB_ok h
    have e0 := Nat.eq_of_beq_eq_true hb0
    have g0 : okB 112 a0 = true := e0 ▸ hty.1
    have e20 := one_112 g0
    subst e20
    obtain ⟨v, I1, h1, h2⟩ := bn_some h
    refine ⟨gf_obj (c := 12) (by decide) g0, rfl, some (0, .int v), I1, trivial, ?_, h2⟩
    exact s_R_readProduct_0 hcs   (Q := fun w I => w = v ∧ I = I1) (fun w I q => by obtain ⟨rfl, rfl⟩ := q; rfl) I v I1 h1 ⟨rfl, rfl⟩
  · cases h
theorem S_R_readProduct {d : Nat} (hd : 5 ≤ d) : Snd L X d 231 1 (W_R_readProduct F_R_readProduct) := by
  obtain ⟨e, rfl⟩ : ∃ e, d = e + 1 := ⟨d - 1, by omega⟩
  exact w_R_readProduct ⟨S_R_emits (by omega), S_R_errs (by omega), S_R_isSign (by omega), S_R_readUnit (by omega), S_R_reads (by omega), trivial⟩
set_option maxRecDepth 100000 in
theorem z_R_readSum : pT[230]? = some (q_R_readSum, 1, 2, 1, 12) := rfl
def W_R_readSum (F : M Int32) : CSem := fun _ args k => match args with
  | [(t0, .ref a0)] => mB (Nat.beq t0 112) <| bn (F) fun v => k (some (0, .int v))
  | _ => fl
def cs_R_readSum (f_R_emits : Int32 → Int32 → M Unit) (f_R_isSign : Int32 → M Int32) (f_R_readProduct : M Int32) (f_R_reads : M Unit) : List (Nat × Nat × CSem) := [(234, 3, W_R_emits f_R_emits), (220, 2, W_R_isSign f_R_isSign), (231, 1, W_R_readProduct f_R_readProduct), (207, 1, W_R_reads f_R_reads)]
def K_R_readSum_28 : M ((Unit) ⊕ (Int32)) :=
  bn (rd 207 18) fun v1 =>
  (if v1 = (43 : Int32) then
    bn (F_R_reads) fun _ =>
    bn (F_R_readProduct) fun v3 =>
    (if v3 = (-1 : Int32) then
      rt (.inr (-1 : Int32))
    else
      bn (F_R_emits (2 : Int32) (0 : Int32)) fun _ =>
      rt (.inl ()))
  else
    bn (F_R_reads) fun _ =>
    bn (F_R_readProduct) fun v2 =>
    (if v2 = (-1 : Int32) then
      rt (.inr (-1 : Int32))
    else
      bn (F_R_emits (3 : Int32) (0 : Int32)) fun _ =>
      rt (.inl ())))
set_option maxRecDepth 4000 in
theorem e_s_R_readSum_28 (f_R_emits : Int32 → Int32 → M Unit) (f_R_isSign : Int32 → M Int32) (f_R_readProduct : M Int32) (f_R_reads : M Unit) : wf (β := (Unit) ⊕ (Int32)) L X q_R_readSum 1 (cs_R_readSum f_R_emits f_R_isSign f_R_readProduct f_R_reads) [1] [10, 28] (fun pc ls st => mC (Nat.beq pc 10) (mN st <| gD ls 1 <| rt (.inl ())) (fl)) (fun v => match v with | some (_, .int x) => rt (.inr x) | _ => fl) 42 28 [(112, .ref 207), (0, dV)] [] = (bn (rd 207 18) fun v1 =>
  (if v1 = (43 : Int32) then
    bn (f_R_reads) fun _ =>
    bn (f_R_readProduct) fun v3 =>
    (if v3 = (-1 : Int32) then
      rt (.inr (-1 : Int32))
    else
      bn (f_R_emits (2 : Int32) (0 : Int32)) fun _ =>
      rt (.inl ()))
  else
    bn (f_R_reads) fun _ =>
    bn (f_R_readProduct) fun v2 =>
    (if v2 = (-1 : Int32) then
      rt (.inr (-1 : Int32))
    else
      bn (f_R_emits (3 : Int32) (0 : Int32)) fun _ =>
      rt (.inl ())))) := rfl
theorem s_R_readSum_28 {d : Nat} (hcs : AllS L X d (cs_R_readSum F_R_emits F_R_isSign F_R_readProduct F_R_reads)) {o : Option Value × PH} {Q : ((Unit) ⊕ (Int32)) → MI → Prop} (qb : ∀ y I, Q (.inl y) I → At L X (d + 1) 230 10 [(112, .ref 207), (0, dV)] [] I o) (qr : ∀ v I, Q (.inr v) I → o = (some (.int v), HH I)) (I : MI) (r : (Unit) ⊕ (Int32)) (I1 : MI) (h : K_R_readSum_28 I = some (r, I1)) (hq : Q r I1) : At L X (d + 1) 230 28 [(112, .ref 207), (0, dV)] [] I o := by
  refine wf_ok z_R_readSum hcs ?_ ?_ _ _ _ _ _ ⟨rfl, trivial, trivial⟩ trivial (unm_refl _ _) ((congrFun (e_s_R_readSum_28 (L := L) (X := X) F_R_emits F_R_isSign F_R_readProduct F_R_reads) I).trans h)
  · intro pc ls st I2 h1 h2 h3 h
    rcases mC_ok h with ⟨hb, h⟩ | ⟨_, h⟩
    · have e := Nat.eq_of_beq_eq_true hb
      subst e
      obtain ⟨hst, h⟩ := mN_ok h
      subst hst
      obtain ⟨n1, h⟩ := gD_ok h
      refine at_leaf (ls2 := [(112, .ref 207), (0, dV)]) h3.1 ⟨Or.inr ⟨_, (h3.2 0 rfl).trans rfl⟩, Or.inl ⟨rfl, n1⟩, trivial⟩ ?_
      cases h; exact qb _ _ hq
    cases h
  · intro v I2 _ h
    split at h
    · cases h; exact qr _ _ hq
    · cases h
def B_R_readSum_10 (y : Unit) : M ((Unit) ⊕ (Int32)) :=
  bn (F_R_isSign (43 : Int32)) fun v1 =>
  (if v1 = 0 then
    bn (F_R_isSign (45 : Int32)) fun v2 =>
    (if v2 = 0 then
      rt (.inr (0 : Int32))
    else
      K_R_readSum_28)
  else
    K_R_readSum_28)
set_option maxRecDepth 4000 in
theorem e_b_R_readSum_10 (f_R_emits : Int32 → Int32 → M Unit) (f_R_isSign : Int32 → M Int32) (f_R_readProduct : M Int32) (f_R_reads : M Unit) (k_28 : M ((Unit) ⊕ (Int32))) (y : Unit) : wf (β := (Unit) ⊕ (Int32)) L X q_R_readSum 1 (cs_R_readSum f_R_emits f_R_isSign f_R_readProduct f_R_reads) [] [10, 28] (fun pc ls st => mC (Nat.beq pc 28) (mN st <| gD ls 1 <| k_28) (fl)) (fun v => match v with | some (_, .int x) => rt (.inr x) | _ => fl) 42 10 [(112, .ref 207), (0, dV)] [] = (bn (f_R_isSign (43 : Int32)) fun v1 =>
  (if v1 = 0 then
    bn (f_R_isSign (45 : Int32)) fun v2 =>
    (if v2 = 0 then
      rt (.inr (0 : Int32))
    else
      k_28)
  else
    k_28)) := rfl
theorem b_R_readSum_10 {d : Nat} (hcs : AllS L X d (cs_R_readSum F_R_emits F_R_isSign F_R_readProduct F_R_reads)) {o : Option Value × PH} {Q : ((Unit) ⊕ (Int32)) → MI → Prop} (qb : ∀ y I, Q (.inl y) I → At L X (d + 1) 230 10 [(112, .ref 207), (0, dV)] [] I o) (qr : ∀ v I, Q (.inr v) I → o = (some (.int v), HH I)) (y : Unit) (I : MI) (r : (Unit) ⊕ (Int32)) (I1 : MI) (h : B_R_readSum_10 y I = some (r, I1)) (hq : Q r I1) : At L X (d + 1) 230 10 [(112, .ref 207), (0, dV)] [] I o := by
  refine wf_ok z_R_readSum hcs ?_ ?_ _ _ _ _ _ ⟨rfl, trivial, trivial⟩ trivial (unm_refl _ _) ((congrFun (e_b_R_readSum_10 (L := L) (X := X) F_R_emits F_R_isSign F_R_readProduct F_R_reads K_R_readSum_28 y) I).trans h)
  · intro pc ls st I2 h1 h2 h3 h
    rcases mC_ok h with ⟨hb, h⟩ | ⟨_, h⟩
    · have e := Nat.eq_of_beq_eq_true hb
      subst e
      obtain ⟨hst, h⟩ := mN_ok h
      subst hst
      obtain ⟨n1, h⟩ := gD_ok h
      refine at_leaf (ls2 := [(112, .ref 207), (0, dV)]) h3.1 ⟨Or.inr ⟨_, (h3.2 0 rfl).trans rfl⟩, Or.inl ⟨rfl, n1⟩, trivial⟩ ?_
      exact s_R_readSum_28 hcs qb qr _ _ _ h hq
    cases h
  · intro v I2 _ h
    split at h
    · cases h; exact qr _ _ hq
    · cases h
def K_R_readSum_10 : M (Int32) :=
  lp (B_R_readSum_10) FU ()
theorem s_R_readSum_10 {d : Nat} (hcs : AllS L X d (cs_R_readSum F_R_emits F_R_isSign F_R_readProduct F_R_reads)) {o : Option Value × PH} {Q : (Int32) → MI → Prop} (q0 : ∀ v I, Q v I → o = (some (.int v), HH I)) (I : MI) (r : Int32) (I1 : MI) (h : K_R_readSum_10 I = some (r, I1)) (hq : Q r I1) : At L X (d + 1) 230 10 [(112, .ref 207), (0, dV)] [] I o := by
  unfold K_R_readSum_10 at h
  have w0 := fun w => at_lp (body := B_R_readSum_10) (P := (fun (y : Unit) I => At L X (d + 1) 230 10 [(112, .ref 207), (0, dV)] [] I o)) (Q := (fun (e : Int32) I => Q e I)) w FU () I r I1 h hq
  refine w0 ?_
  intro y I r I1 h hq
  exact b_R_readSum_10 hcs (Q := SQ (fun (y : Unit) I => At L X (d + 1) 230 10 [(112, .ref 207), (0, dV)] [] I o) (fun (e : Int32) I => Q e I)) (fun _ _ w => w) q0 y I r I1 h hq
def F_R_readSum : M (Int32) :=
  bn (F_R_readProduct) fun v1 =>
  (if v1 = (-1 : Int32) then
    rt (-1 : Int32)
  else
    K_R_readSum_10)
set_option maxRecDepth 4000 in
theorem e_s_R_readSum_0 (f_R_emits : Int32 → Int32 → M Unit) (f_R_isSign : Int32 → M Int32) (f_R_readProduct : M Int32) (f_R_reads : M Unit) (k_10 : M (Int32)) : wf (β := Int32) L X q_R_readSum 1 (cs_R_readSum f_R_emits f_R_isSign f_R_readProduct f_R_reads) [] [10, 28] (fun pc ls st => mC (Nat.beq pc 10) (mN st <| gD ls 1 <| k_10) (fl)) (fun v => match v with | some (_, .int x) => rt x | _ => fl) 42 0 [(112, .ref 207), (0, dV)] [] = (bn (f_R_readProduct) fun v1 =>
  (if v1 = (-1 : Int32) then
    rt (-1 : Int32)
  else
    k_10)) := rfl
theorem s_R_readSum_0 {d : Nat} (hcs : AllS L X d (cs_R_readSum F_R_emits F_R_isSign F_R_readProduct F_R_reads)) {o : Option Value × PH} {Q : (Int32) → MI → Prop} (q0 : ∀ v I, Q v I → o = (some (.int v), HH I)) (I : MI) (r : Int32) (I1 : MI) (h : F_R_readSum I = some (r, I1)) (hq : Q r I1) : At L X (d + 1) 230 0 [(112, .ref 207), (0, dV)] [] I o := by
  refine wf_ok z_R_readSum hcs ?_ ?_ _ _ _ _ _ ⟨rfl, trivial, trivial⟩ trivial (unm_refl _ _) ((congrFun (e_s_R_readSum_0 (L := L) (X := X) F_R_emits F_R_isSign F_R_readProduct F_R_reads K_R_readSum_10) I).trans h)
  · intro pc ls st I2 h1 h2 h3 h
    rcases mC_ok h with ⟨hb, h⟩ | ⟨_, h⟩
    · have e := Nat.eq_of_beq_eq_true hb
      subst e
      obtain ⟨hst, h⟩ := mN_ok h
      subst hst
      obtain ⟨n1, h⟩ := gD_ok h
      refine at_leaf (ls2 := [(112, .ref 207), (0, dV)]) h3.1 ⟨Or.inr ⟨_, (h3.2 0 rfl).trans rfl⟩, Or.inl ⟨rfl, n1⟩, trivial⟩ ?_
      exact s_R_readSum_10 hcs q0 _ _ _ h hq
    cases h
  · intro v I2 _ h
    split at h
    · cases h; exact q0 _ _ hq
    · cases h
theorem w_R_readSum {d : Nat} (hcs : AllS L X d (cs_R_readSum F_R_emits F_R_isSign F_R_readProduct F_R_reads)) : Snd L X (d + 1) 230 1 (W_R_readSum F_R_readSum) := by
  refine ⟨_, z_R_readSum, rfl, fun β args k I r hty hlen h => ?_⟩
  unfold W_R_readSum at h
  split at h
  · rename_i t0 a0
    obtain ⟨hb0, h⟩ := mB_ok h
    have e0 := Nat.eq_of_beq_eq_true hb0
    have g0 : okB 112 a0 = true := e0 ▸ hty.1
    have e20 := one_112 g0
    subst e20
    obtain ⟨v, I1, h1, h2⟩ := bn_some h
    refine ⟨gf_obj (c := 12) (by decide) g0, rfl, some (0, .int v), I1, trivial, ?_, h2⟩
    exact s_R_readSum_0 hcs   (Q := fun w I => w = v ∧ I = I1) (fun w I q => by obtain ⟨rfl, rfl⟩ := q; rfl) I v I1 h1 ⟨rfl, rfl⟩
  · cases h
theorem S_R_readSum {d : Nat} (hd : 6 ≤ d) : Snd L X d 230 1 (W_R_readSum F_R_readSum) := by
  obtain ⟨e, rfl⟩ : ∃ e, d = e + 1 := ⟨d - 1, by omega⟩
  exact w_R_readSum ⟨S_R_emits (by omega), S_R_isSign (by omega), S_R_readProduct (by omega), S_R_reads (by omega), trivial⟩
set_option maxRecDepth 100000 in
theorem z_R_readCompared : pT[237]? = some (q_R_readCompared, 1, 2, 1, 12) := rfl
def W_R_readCompared (F : M Int32) : CSem := fun _ args k => match args with
  | [(t0, .ref a0)] => mB (Nat.beq t0 112) <| bn (F) fun v => k (some (0, .int v))
  | _ => fl
def cs_R_readCompared (f_R_emits : Int32 → Int32 → M Unit) (f_R_errs : Int32 → M Int32) (f_R_isSign : Int32 → M Int32) (f_R_readSum : M Int32) (f_R_reads : M Unit) : List (Nat × Nat × CSem) := [(234, 3, W_R_emits f_R_emits), (215, 2, W_R_errs f_R_errs), (220, 2, W_R_isSign f_R_isSign), (230, 1, W_R_readSum f_R_readSum), (207, 1, W_R_reads f_R_reads)]
def K_R_readCompared_43 : M (Int32) :=
  bn (rd 207 18) fun v1 =>
  (if v1 = (60 : Int32) then
    bn (F_R_reads) fun _ =>
    bn (F_R_readSum) fun v5 =>
    (if v5 = (-1 : Int32) then
      rt (-1 : Int32)
    else
      bn (F_R_emits (6 : Int32) (0 : Int32)) fun _ =>
      rt (0 : Int32))
  else
    bn (rd 207 18) fun v2 =>
    (if v2 = (61 : Int32) then
      bn (F_R_reads) fun _ =>
      bn (F_R_readSum) fun v4 =>
      (if v4 = (-1 : Int32) then
        rt (-1 : Int32)
      else
        bn (F_R_emits (7 : Int32) (0 : Int32)) fun _ =>
        rt (0 : Int32))
    else
      bn (F_R_reads) fun _ =>
      bn (F_R_readSum) fun v3 =>
      (if v3 = (-1 : Int32) then
        rt (-1 : Int32)
      else
        bn (F_R_emits (8 : Int32) (0 : Int32)) fun _ =>
        rt (0 : Int32))))
set_option maxRecDepth 4000 in
theorem e_s_R_readCompared_43 (f_R_emits : Int32 → Int32 → M Unit) (f_R_errs : Int32 → M Int32) (f_R_isSign : Int32 → M Int32) (f_R_readSum : M Int32) (f_R_reads : M Unit) : wf (β := Int32) L X q_R_readCompared 1 (cs_R_readCompared f_R_emits f_R_errs f_R_isSign f_R_readSum f_R_reads) [1] [43] (fun _ _ _ => fl) (fun v => match v with | some (_, .int x) => rt x | _ => fl) 55 43 [(112, .ref 207), (0, dV)] [] = (bn (rd 207 18) fun v1 =>
  (if v1 = (60 : Int32) then
    bn (f_R_reads) fun _ =>
    bn (f_R_readSum) fun v5 =>
    (if v5 = (-1 : Int32) then
      rt (-1 : Int32)
    else
      bn (f_R_emits (6 : Int32) (0 : Int32)) fun _ =>
      rt (0 : Int32))
  else
    bn (rd 207 18) fun v2 =>
    (if v2 = (61 : Int32) then
      bn (f_R_reads) fun _ =>
      bn (f_R_readSum) fun v4 =>
      (if v4 = (-1 : Int32) then
        rt (-1 : Int32)
      else
        bn (f_R_emits (7 : Int32) (0 : Int32)) fun _ =>
        rt (0 : Int32))
    else
      bn (f_R_reads) fun _ =>
      bn (f_R_readSum) fun v3 =>
      (if v3 = (-1 : Int32) then
        rt (-1 : Int32)
      else
        bn (f_R_emits (8 : Int32) (0 : Int32)) fun _ =>
        rt (0 : Int32))))) := rfl
theorem s_R_readCompared_43 {d : Nat} (hcs : AllS L X d (cs_R_readCompared F_R_emits F_R_errs F_R_isSign F_R_readSum F_R_reads)) {o : Option Value × PH} {Q : (Int32) → MI → Prop} (q0 : ∀ v I, Q v I → o = (some (.int v), HH I)) (I : MI) (r : Int32) (I1 : MI) (h : K_R_readCompared_43 I = some (r, I1)) (hq : Q r I1) : At L X (d + 1) 237 43 [(112, .ref 207), (0, dV)] [] I o := by
  refine wf_ok z_R_readCompared hcs ?_ ?_ _ _ _ _ _ ⟨rfl, trivial, trivial⟩ trivial (unm_refl _ _) ((congrFun (e_s_R_readCompared_43 (L := L) (X := X) F_R_emits F_R_errs F_R_isSign F_R_readSum F_R_reads) I).trans h)
  · intro pc ls st I2 h1 h2 h3 h
    cases h
  · intro v I2 _ h
    split at h
    · cases h; exact q0 _ _ hq
    · cases h
def F_R_readCompared : M (Int32) :=
  bn (F_R_readSum) fun v1 =>
  (if v1 = (-1 : Int32) then
    rt (-1 : Int32)
  else
    bn (F_R_isSign (60 : Int32)) fun v2 =>
    (if v2 = 0 then
      bn (F_R_isSign (61 : Int32)) fun v3 =>
      (if v3 = 0 then
        bn (F_R_isSign (62 : Int32)) fun v4 =>
        (if v4 = 0 then
          bn (F_R_errs (1 : Int32)) fun v5 =>
          rt v5
        else
          K_R_readCompared_43)
      else
        K_R_readCompared_43)
    else
      K_R_readCompared_43))
set_option maxRecDepth 4000 in
theorem e_s_R_readCompared_0 (f_R_emits : Int32 → Int32 → M Unit) (f_R_errs : Int32 → M Int32) (f_R_isSign : Int32 → M Int32) (f_R_readSum : M Int32) (f_R_reads : M Unit) (k_43 : M (Int32)) : wf (β := Int32) L X q_R_readCompared 1 (cs_R_readCompared f_R_emits f_R_errs f_R_isSign f_R_readSum f_R_reads) [] [43] (fun pc ls st => mC (Nat.beq pc 43) (mN st <| gD ls 1 <| k_43) (fl)) (fun v => match v with | some (_, .int x) => rt x | _ => fl) 55 0 [(112, .ref 207), (0, dV)] [] = (bn (f_R_readSum) fun v1 =>
  (if v1 = (-1 : Int32) then
    rt (-1 : Int32)
  else
    bn (f_R_isSign (60 : Int32)) fun v2 =>
    (if v2 = 0 then
      bn (f_R_isSign (61 : Int32)) fun v3 =>
      (if v3 = 0 then
        bn (f_R_isSign (62 : Int32)) fun v4 =>
        (if v4 = 0 then
          bn (f_R_errs (1 : Int32)) fun v5 =>
          rt v5
        else
          k_43)
      else
        k_43)
    else
      k_43))) := rfl
theorem s_R_readCompared_0 {d : Nat} (hcs : AllS L X d (cs_R_readCompared F_R_emits F_R_errs F_R_isSign F_R_readSum F_R_reads)) {o : Option Value × PH} {Q : (Int32) → MI → Prop} (q0 : ∀ v I, Q v I → o = (some (.int v), HH I)) (I : MI) (r : Int32) (I1 : MI) (h : F_R_readCompared I = some (r, I1)) (hq : Q r I1) : At L X (d + 1) 237 0 [(112, .ref 207), (0, dV)] [] I o := by
  refine wf_ok z_R_readCompared hcs ?_ ?_ _ _ _ _ _ ⟨rfl, trivial, trivial⟩ trivial (unm_refl _ _) ((congrFun (e_s_R_readCompared_0 (L := L) (X := X) F_R_emits F_R_errs F_R_isSign F_R_readSum F_R_reads K_R_readCompared_43) I).trans h)
  · intro pc ls st I2 h1 h2 h3 h
    rcases mC_ok h with ⟨hb, h⟩ | ⟨_, h⟩
    · have e := Nat.eq_of_beq_eq_true hb
      subst e
      obtain ⟨hst, h⟩ := mN_ok h
      subst hst
      obtain ⟨n1, h⟩ := gD_ok h
      refine at_leaf (ls2 := [(112, .ref 207), (0, dV)]) h3.1 ⟨Or.inr ⟨_, (h3.2 0 rfl).trans rfl⟩, Or.inl ⟨rfl, n1⟩, trivial⟩ ?_
      exact s_R_readCompared_43 hcs q0 _ _ _ h hq
    cases h
  · intro v I2 _ h
    split at h
    · cases h; exact q0 _ _ hq
    · cases h
theorem w_R_readCompared {d : Nat} (hcs : AllS L X d (cs_R_readCompared F_R_emits F_R_errs F_R_isSign F_R_readSum F_R_reads)) : Snd L X (d + 1) 237 1 (W_R_readCompared F_R_readCompared) := by
  refine ⟨_, z_R_readCompared, rfl, fun β args k I r hty hlen h => ?_⟩
  unfold W_R_readCompared at h
  split at h
  · rename_i t0 a0
    obtain ⟨hb0, h⟩ := mB_ok h
    have e0 := Nat.eq_of_beq_eq_true hb0
    have g0 : okB 112 a0 = true := e0 ▸ hty.1
    have e20 := one_112 g0
    subst e20
    obtain ⟨v, I1, h1, h2⟩ := bn_some h
    refine ⟨gf_obj (c := 12) (by decide) g0, rfl, some (0, .int v), I1, trivial, ?_, h2⟩
    exact s_R_readCompared_0 hcs   (Q := fun w I => w = v ∧ I = I1) (fun w I q => by obtain ⟨rfl, rfl⟩ := q; rfl) I v I1 h1 ⟨rfl, rfl⟩
  · cases h
theorem S_R_readCompared {d : Nat} (hd : 7 ≤ d) : Snd L X d 237 1 (W_R_readCompared F_R_readCompared) := by
  obtain ⟨e, rfl⟩ : ∃ e, d = e + 1 := ⟨d - 1, by omega⟩
  exact w_R_readCompared ⟨S_R_emits (by omega), S_R_errs (by omega), S_R_isSign (by omega), S_R_readSum (by omega), S_R_reads (by omega), trivial⟩
set_option maxRecDepth 100000 in
theorem z_R_settles : pT[238]? = some (q_R_settles, 2, 2, 0, 12) := rfl
def W_R_settles (F : Int32 → M Unit) : CSem := fun _ args k => match args with
  | [(t0, .ref a0), (_, .int a1)] => mB (Nat.beq t0 112) <| bn (F a1) fun _ => k none
  | _ => fl
def cs_R_settles (f_R_emits : Int32 → Int32 → M Unit) : List (Nat × Nat × CSem) := [(234, 3, W_R_emits f_R_emits)]
def B_R_settles_0 (x1 : Int32) (y : Unit) : M ((Unit) ⊕ (Unit)) :=
  bn (rd 207 31) fun v1 =>
  (if 0 < v1 then
    bn (rd 207 31) fun v2 =>
    bn (ld 40 225 (v2 - (1 : Int32))) fun v3 =>
    (if v3 = x1 then
      bn (rd 207 31) fun v4 =>
      bn (wr 207 31 (v4 - (1 : Int32))) fun _ =>
      bn (F_R_emits x1 (0 : Int32)) fun _ =>
      (if x1 = (9 : Int32) then
        bn (rd 207 29) fun v5 =>
        bn (wr 207 29 (v5 - (1 : Int32))) fun _ =>
        rt (.inl ())
      else
        rt (.inl ()))
    else
      rt (.inr ()))
  else
    rt (.inr ()))
set_option maxRecDepth 4000 in
theorem e_b_R_settles_0 (f_R_emits : Int32 → Int32 → M Unit) (x1 : Int32) (y : Unit) : wf (β := (Unit) ⊕ (Unit)) L X q_R_settles 0 (cs_R_settles f_R_emits) [] [0] (fun pc ls st => mC (Nat.beq pc 0) (mN st <| rt (.inl ())) (fl)) (fun v => match v with | none => rt (.inr ()) | _ => fl) 38 0 [(112, .ref 207), (0, .int x1)] [] = (bn (rd 207 31) fun v1 =>
  (if 0 < v1 then
    bn (rd 207 31) fun v2 =>
    bn (ld 40 225 (v2 - (1 : Int32))) fun v3 =>
    (if v3 = x1 then
      bn (rd 207 31) fun v4 =>
      bn (wr 207 31 (v4 - (1 : Int32))) fun _ =>
      bn (f_R_emits x1 (0 : Int32)) fun _ =>
      (if x1 = (9 : Int32) then
        bn (rd 207 29) fun v5 =>
        bn (wr 207 29 (v5 - (1 : Int32))) fun _ =>
        rt (.inl ())
      else
        rt (.inl ()))
    else
      rt (.inr ()))
  else
    rt (.inr ()))) := rfl
theorem b_R_settles_0 {d : Nat} (hcs : AllS L X d (cs_R_settles F_R_emits)) (x1 : Int32) {o : Option Value × PH} {Q : ((Unit) ⊕ (Unit)) → MI → Prop} (qb : ∀ y I, Q (.inl y) I → At L X (d + 1) 238 0 [(112, .ref 207), (0, .int x1)] [] I o) (qr : ∀ v I, Q (.inr v) I → o = (none, HH I)) (y : Unit) (I : MI) (r : (Unit) ⊕ (Unit)) (I1 : MI) (h : B_R_settles_0 x1 y I = some (r, I1)) (hq : Q r I1) : At L X (d + 1) 238 0 [(112, .ref 207), (0, .int x1)] [] I o := by
  refine wf_ok z_R_settles hcs ?_ ?_ _ _ _ _ _ ⟨rfl, trivial, trivial⟩ trivial (unm_refl _ _) ((congrFun (e_b_R_settles_0 (L := L) (X := X) F_R_emits x1 y) I).trans h)
  · intro pc ls st I2 h1 h2 h3 h
    rcases mC_ok h with ⟨hb, h⟩ | ⟨_, h⟩
    · have e := Nat.eq_of_beq_eq_true hb
      subst e
      obtain ⟨hst, h⟩ := mN_ok h
      subst hst
      refine at_leaf (ls2 := [(112, .ref 207), (0, .int x1)]) h3.1 ⟨Or.inr ⟨_, (h3.2 0 rfl).trans rfl⟩, Or.inr ⟨_, (h3.2 1 rfl).trans rfl⟩, trivial⟩ ?_
      cases h; exact qb _ _ hq
    cases h
  · intro v I2 _ h
    split at h
    · cases h; exact qr _ _ hq
    · cases h
def F_R_settles (x1 : Int32) : M (Unit) :=
  lp (B_R_settles_0 x1) FU ()
theorem s_R_settles_0 {d : Nat} (hcs : AllS L X d (cs_R_settles F_R_emits)) (x1 : Int32) {o : Option Value × PH} {Q : (Unit) → MI → Prop} (q0 : ∀ v I, Q v I → o = (none, HH I)) (I : MI) (r : Unit) (I1 : MI) (h : F_R_settles x1 I = some (r, I1)) (hq : Q r I1) : At L X (d + 1) 238 0 [(112, .ref 207), (0, .int x1)] [] I o := by
  unfold F_R_settles at h
  have w0 := fun w => at_lp (body := B_R_settles_0 x1) (P := (fun (y : Unit) I => At L X (d + 1) 238 0 [(112, .ref 207), (0, .int x1)] [] I o)) (Q := (fun (e : Unit) I => Q e I)) w FU () I r I1 h hq
  refine w0 ?_
  intro y I r I1 h hq
  exact b_R_settles_0 hcs x1 (Q := SQ (fun (y : Unit) I => At L X (d + 1) 238 0 [(112, .ref 207), (0, .int x1)] [] I o) (fun (e : Unit) I => Q e I)) (fun _ _ w => w) q0 y I r I1 h hq
theorem w_R_settles {d : Nat} (hcs : AllS L X d (cs_R_settles F_R_emits)) : Snd L X (d + 1) 238 2 (W_R_settles F_R_settles) := by
  refine ⟨_, z_R_settles, rfl, fun β args k I r hty hlen h => ?_⟩
  unfold W_R_settles at h
  split at h
  · rename_i t0 a0 u1 a1
    obtain ⟨hb0, h⟩ := mB_ok h
    have e0 := Nat.eq_of_beq_eq_true hb0
    have g0 : okB 112 a0 = true := e0 ▸ hty.1
    have e20 := one_112 g0
    subst e20
    obtain ⟨v, I1, h1, h2⟩ := bn_some h
    refine ⟨gf_obj (c := 12) (by decide) g0, rfl, none, I1, trivial, ?_, h2⟩
    exact s_R_settles_0 hcs a1  (Q := fun w I => w = v ∧ I = I1) (fun w I q => by obtain ⟨rfl, rfl⟩ := q; rfl) I v I1 h1 ⟨rfl, rfl⟩
  · cases h
theorem S_R_settles {d : Nat} (hd : 2 ≤ d) : Snd L X d 238 2 (W_R_settles F_R_settles) := by
  obtain ⟨e, rfl⟩ : ∃ e, d = e + 1 := ⟨d - 1, by omega⟩
  exact w_R_settles ⟨S_R_emits (by omega), trivial⟩
set_option maxRecDepth 100000 in
theorem z_R_waits : pT[236]? = some (q_R_waits, 2, 2, 0, 12) := rfl
def W_R_waits (F : Int32 → M Unit) : CSem := fun _ args k => match args with
  | [(t0, .ref a0), (_, .int a1)] => mB (Nat.beq t0 112) <| bn (F a1) fun _ => k none
  | _ => fl
def cs_R_waits : List (Nat × Nat × CSem) := []
def F_R_waits (x1 : Int32) : M (Unit) :=
  bn (rd 207 31) fun v1 =>
  bn (sr 40 225 v1 x1) fun _ =>
  bn (rd 207 31) fun v2 =>
  bn (wr 207 31 (v2 + (1 : Int32))) fun _ =>
  rt ()
set_option maxRecDepth 4000 in
theorem e_s_R_waits_0 (x1 : Int32) : wf (β := Unit) L X q_R_waits 0 cs_R_waits [] [] (fun _ _ _ => fl) (fun v => match v with | none => rt () | _ => fl) 18 0 [(112, .ref 207), (0, .int x1)] [] = (bn (rd 207 31) fun v1 =>
  bn (sr 40 225 v1 x1) fun _ =>
  bn (rd 207 31) fun v2 =>
  bn (wr 207 31 (v2 + (1 : Int32))) fun _ =>
  rt ()) := rfl
theorem s_R_waits_0 {d : Nat} (hcs : AllS L X d cs_R_waits) (x1 : Int32) {o : Option Value × PH} {Q : (Unit) → MI → Prop} (q0 : ∀ v I, Q v I → o = (none, HH I)) (I : MI) (r : Unit) (I1 : MI) (h : F_R_waits x1 I = some (r, I1)) (hq : Q r I1) : At L X (d + 1) 236 0 [(112, .ref 207), (0, .int x1)] [] I o := by
  refine wf_ok z_R_waits hcs ?_ ?_ _ _ _ _ _ ⟨rfl, trivial, trivial⟩ trivial (unm_refl _ _) ((congrFun (e_s_R_waits_0 (L := L) (X := X) x1) I).trans h)
  · intro pc ls st I2 h1 h2 h3 h
    cases h
  · intro v I2 _ h
    split at h
    · cases h; exact q0 _ _ hq
    · cases h
theorem w_R_waits {d : Nat} (hcs : AllS L X d cs_R_waits) : Snd L X (d + 1) 236 2 (W_R_waits F_R_waits) := by
  refine ⟨_, z_R_waits, rfl, fun β args k I r hty hlen h => ?_⟩
  unfold W_R_waits at h
  split at h
  · rename_i t0 a0 u1 a1
    obtain ⟨hb0, h⟩ := mB_ok h
    have e0 := Nat.eq_of_beq_eq_true hb0
    have g0 : okB 112 a0 = true := e0 ▸ hty.1
    have e20 := one_112 g0
    subst e20
    obtain ⟨v, I1, h1, h2⟩ := bn_some h
    refine ⟨gf_obj (c := 12) (by decide) g0, rfl, none, I1, trivial, ?_, h2⟩
    exact s_R_waits_0 hcs a1  (Q := fun w I => w = v ∧ I = I1) (fun w I q => by obtain ⟨rfl, rfl⟩ := q; rfl) I v I1 h1 ⟨rfl, rfl⟩
  · cases h
theorem S_R_waits {d : Nat} (hd : 1 ≤ d) : Snd L X d 236 2 (W_R_waits F_R_waits) := by
  obtain ⟨e, rfl⟩ : ∃ e, d = e + 1 := ⟨d - 1, by omega⟩
  exact w_R_waits trivial
set_option maxRecDepth 100000 in
theorem z_R_readAny : pT[235]? = some (q_R_readAny, 1, 4, 1, 12) := rfl
def W_R_readAny (F : M Int32) : CSem := fun _ args k => match args with
  | [(t0, .ref a0)] => mB (Nat.beq t0 112) <| bn (F) fun v => k (some (0, .int v))
  | _ => fl
def cs_R_readAny (f_R_errs : Int32 → M Int32) (f_R_isSign : Int32 → M Int32) (f_R_isWord : Int32 → M Int32) (f_R_readCompared : M Int32) (f_R_reads : M Unit) (f_R_settles : Int32 → M Unit) (f_R_waits : Int32 → M Unit) : List (Nat × Nat × CSem) := [(215, 2, W_R_errs f_R_errs), (220, 2, W_R_isSign f_R_isSign), (214, 2, W_R_isWord f_R_isWord), (237, 1, W_R_readCompared f_R_readCompared), (207, 1, W_R_reads f_R_reads), (238, 2, W_R_settles f_R_settles), (236, 2, W_R_waits f_R_waits)]
def K_R_readAny_33 (x1 : Int32) (x2 : Int32) (x3 : Int32) : M ((Int32 × Int32) ⊕ (Int32)) :=
  bn (rd 207 29) fun v1 =>
  (if v1 = (8 : Int32) then
    bn (F_R_errs (3 : Int32)) fun v3 =>
    rt (.inr v3)
  else
    bn (rd 207 29) fun v2 =>
    bn (wr 207 29 (v2 + (1 : Int32))) fun _ =>
    (if x3 = 0 then
      (if x3 = 0 then
        bn (F_R_waits (12 : Int32)) fun _ =>
        bn (F_R_reads) fun _ =>
        rt (.inl ((x1 + (1 : Int32)), x2))
      else
        bn (F_R_waits (9 : Int32)) fun _ =>
        bn (F_R_reads) fun _ =>
        rt (.inl ((x1 + (1 : Int32)), x2)))
    else
      (if x3 = 0 then
        bn (F_R_waits (12 : Int32)) fun _ =>
        bn (F_R_reads) fun _ =>
        rt (.inl (x1, x2))
      else
        bn (F_R_waits (9 : Int32)) fun _ =>
        bn (F_R_reads) fun _ =>
        rt (.inl (x1, x2)))))
set_option maxRecDepth 4000 in
theorem e_s_R_readAny_33 (f_R_errs : Int32 → M Int32) (f_R_isSign : Int32 → M Int32) (f_R_isWord : Int32 → M Int32) (f_R_readCompared : M Int32) (f_R_reads : M Unit) (f_R_settles : Int32 → M Unit) (f_R_waits : Int32 → M Unit) (x1 : Int32) (x2 : Int32) (x3 : Int32) : wf (β := (Int32 × Int32) ⊕ (Int32)) L X q_R_readAny 1 (cs_R_readAny f_R_errs f_R_isSign f_R_isWord f_R_readCompared f_R_reads f_R_settles f_R_waits) [1] [9, 33] (fun pc ls st => mC (Nat.beq pc 9) (mN st <| gI ls 1 fun a1 => gD ls 3 <| rt (.inl (a1, x2))) (fl)) (fun v => match v with | some (_, .int x) => rt (.inr x) | _ => fl) 139 33 [(112, .ref 207), (0, .int x1), (0, .int x2), (0, .int x3)] [] = (bn (rd 207 29) fun v1 =>
  (if v1 = (8 : Int32) then
    bn (f_R_errs (3 : Int32)) fun v3 =>
    rt (.inr v3)
  else
    bn (rd 207 29) fun v2 =>
    bn (wr 207 29 (v2 + (1 : Int32))) fun _ =>
    (if x3 = 0 then
      (if x3 = 0 then
        bn (f_R_waits (12 : Int32)) fun _ =>
        bn (f_R_reads) fun _ =>
        rt (.inl ((x1 + (1 : Int32)), x2))
      else
        bn (f_R_waits (9 : Int32)) fun _ =>
        bn (f_R_reads) fun _ =>
        rt (.inl ((x1 + (1 : Int32)), x2)))
    else
      (if x3 = 0 then
        bn (f_R_waits (12 : Int32)) fun _ =>
        bn (f_R_reads) fun _ =>
        rt (.inl (x1, x2))
      else
        bn (f_R_waits (9 : Int32)) fun _ =>
        bn (f_R_reads) fun _ =>
        rt (.inl (x1, x2)))))) := rfl
theorem s_R_readAny_33 {d : Nat} (hcs : AllS L X d (cs_R_readAny F_R_errs F_R_isSign F_R_isWord F_R_readCompared F_R_reads F_R_settles F_R_waits)) (x1 : Int32) (x2 : Int32) (x3 : Int32) {o : Option Value × PH} {Q : ((Int32 × Int32) ⊕ (Int32)) → MI → Prop} (qb : ∀ y I, Q (.inl y) I → At L X (d + 1) 235 9 [(112, .ref 207), (0, .int y.1), (0, .int y.2), (0, dV)] [] I o) (qr : ∀ v I, Q (.inr v) I → o = (some (.int v), HH I)) (I : MI) (r : (Int32 × Int32) ⊕ (Int32)) (I1 : MI) (h : K_R_readAny_33 x1 x2 x3 I = some (r, I1)) (hq : Q r I1) : At L X (d + 1) 235 33 [(112, .ref 207), (0, .int x1), (0, .int x2), (0, .int x3)] [] I o := by
  refine wf_ok z_R_readAny hcs ?_ ?_ _ _ _ _ _ ⟨rfl, trivial, trivial, trivial, trivial⟩ trivial (unm_refl _ _) ((congrFun (e_s_R_readAny_33 (L := L) (X := X) F_R_errs F_R_isSign F_R_isWord F_R_readCompared F_R_reads F_R_settles F_R_waits x1 x2 x3) I).trans h)
  · intro pc ls st I2 h1 h2 h3 h
    rcases mC_ok h with ⟨hb, h⟩ | ⟨_, h⟩
    · have e := Nat.eq_of_beq_eq_true hb
      subst e
      obtain ⟨hst, h⟩ := mN_ok h
      subst hst
      obtain ⟨a1, n1, h⟩ := gI_ok h
      obtain ⟨n3, h⟩ := gD_ok h
      refine at_leaf (ls2 := [(112, .ref 207), (0, .int a1), (0, .int x2), (0, dV)]) h3.1 ⟨Or.inr ⟨_, (h3.2 0 rfl).trans rfl⟩, Or.inr n1, Or.inr ⟨_, (h3.2 2 rfl).trans rfl⟩, Or.inl ⟨rfl, n3⟩, trivial⟩ ?_
      cases h; exact qb _ _ hq
    cases h
  · intro v I2 _ h
    split at h
    · cases h; exact qr _ _ hq
    · cases h
def B_R_readAny_9 (y : Int32 × Int32) : M ((Int32 × Int32) ⊕ (Int32)) :=
  (if y.2 = 0 then
    bn (F_R_isWord (5 : Int32)) fun v1 =>
    (if v1 = 0 then
      bn (F_R_isWord (4 : Int32)) fun v2 =>
      (if v2 = 0 then
        bn (F_R_settles (10 : Int32)) fun _ =>
        bn (F_R_settles (11 : Int32)) fun _ =>
        (if y.1 = 0 then
          rt (.inr (0 : Int32))
        else
          bn (F_R_isSign (41 : Int32)) fun v3 =>
          (if v3 = 0 then
            bn (F_R_errs (1 : Int32)) fun v6 =>
            rt (.inr v6)
          else
            bn (rd 207 31) fun v4 =>
            bn (wr 207 31 (v4 - (1 : Int32))) fun _ =>
            bn (rd 207 29) fun v5 =>
            bn (wr 207 29 (v5 - (1 : Int32))) fun _ =>
            bn (F_R_settles (9 : Int32)) fun _ =>
            bn (F_R_reads) fun _ =>
            rt (.inl ((y.1 - (1 : Int32)), y.2))))
      else
        bn (F_R_settles (10 : Int32)) fun _ =>
        bn (F_R_settles (11 : Int32)) fun _ =>
        bn (F_R_waits (11 : Int32)) fun _ =>
        bn (F_R_reads) fun _ =>
        rt (.inl (y.1, (1 : Int32))))
    else
      bn (F_R_settles (10 : Int32)) fun _ =>
      bn (F_R_waits (10 : Int32)) fun _ =>
      bn (F_R_reads) fun _ =>
      rt (.inl (y.1, (1 : Int32))))
  else
    bn (F_R_isWord (6 : Int32)) fun v7 =>
    (if v7 = 0 then
      bn (F_R_isSign (40 : Int32)) fun v8 =>
      (if v8 = 0 then
        bn (F_R_readCompared) fun v9 =>
        (if v9 = (-1 : Int32) then
          rt (.inr (-1 : Int32))
        else
          bn (F_R_settles (9 : Int32)) fun _ =>
          rt (.inl (y.1, (0 : Int32))))
      else
        K_R_readAny_33 y.1 y.2 v7)
    else
      K_R_readAny_33 y.1 y.2 v7))
set_option maxRecDepth 4000 in
theorem e_b_R_readAny_9 (f_R_errs : Int32 → M Int32) (f_R_isSign : Int32 → M Int32) (f_R_isWord : Int32 → M Int32) (f_R_readCompared : M Int32) (f_R_reads : M Unit) (f_R_settles : Int32 → M Unit) (f_R_waits : Int32 → M Unit) (k_33 : Int32 → Int32 → Int32 → M ((Int32 × Int32) ⊕ (Int32))) (y : Int32 × Int32) : wf (β := (Int32 × Int32) ⊕ (Int32)) L X q_R_readAny 1 (cs_R_readAny f_R_errs f_R_isSign f_R_isWord f_R_readCompared f_R_reads f_R_settles f_R_waits) [1, 2, 3] [9, 33] (fun pc ls st => mC (Nat.beq pc 9) (mN st <| gI ls 1 fun a1 => gI ls 2 fun a2 => gD ls 3 <| rt (.inl (a1, a2))) (mC (Nat.beq pc 33) (mN st <| gI ls 1 fun a1 => gI ls 2 fun a2 => gI ls 3 fun a3 => k_33 a1 a2 a3) (fl))) (fun v => match v with | some (_, .int x) => rt (.inr x) | _ => fl) 139 9 [(112, .ref 207), (0, .int y.1), (0, .int y.2), (0, dV)] [] = ((if y.2 = 0 then
    bn (f_R_isWord (5 : Int32)) fun v1 =>
    (if v1 = 0 then
      bn (f_R_isWord (4 : Int32)) fun v2 =>
      (if v2 = 0 then
        bn (f_R_settles (10 : Int32)) fun _ =>
        bn (f_R_settles (11 : Int32)) fun _ =>
        (if y.1 = 0 then
          rt (.inr (0 : Int32))
        else
          bn (f_R_isSign (41 : Int32)) fun v3 =>
          (if v3 = 0 then
            bn (f_R_errs (1 : Int32)) fun v6 =>
            rt (.inr v6)
          else
            bn (rd 207 31) fun v4 =>
            bn (wr 207 31 (v4 - (1 : Int32))) fun _ =>
            bn (rd 207 29) fun v5 =>
            bn (wr 207 29 (v5 - (1 : Int32))) fun _ =>
            bn (f_R_settles (9 : Int32)) fun _ =>
            bn (f_R_reads) fun _ =>
            rt (.inl ((y.1 - (1 : Int32)), y.2))))
      else
        bn (f_R_settles (10 : Int32)) fun _ =>
        bn (f_R_settles (11 : Int32)) fun _ =>
        bn (f_R_waits (11 : Int32)) fun _ =>
        bn (f_R_reads) fun _ =>
        rt (.inl (y.1, (1 : Int32))))
    else
      bn (f_R_settles (10 : Int32)) fun _ =>
      bn (f_R_waits (10 : Int32)) fun _ =>
      bn (f_R_reads) fun _ =>
      rt (.inl (y.1, (1 : Int32))))
  else
    bn (f_R_isWord (6 : Int32)) fun v7 =>
    (if v7 = 0 then
      bn (f_R_isSign (40 : Int32)) fun v8 =>
      (if v8 = 0 then
        bn (f_R_readCompared) fun v9 =>
        (if v9 = (-1 : Int32) then
          rt (.inr (-1 : Int32))
        else
          bn (f_R_settles (9 : Int32)) fun _ =>
          rt (.inl (y.1, (0 : Int32))))
      else
        k_33 y.1 y.2 v7)
    else
      k_33 y.1 y.2 v7))) := rfl
theorem b_R_readAny_9 {d : Nat} (hcs : AllS L X d (cs_R_readAny F_R_errs F_R_isSign F_R_isWord F_R_readCompared F_R_reads F_R_settles F_R_waits)) {o : Option Value × PH} {Q : ((Int32 × Int32) ⊕ (Int32)) → MI → Prop} (qb : ∀ y I, Q (.inl y) I → At L X (d + 1) 235 9 [(112, .ref 207), (0, .int y.1), (0, .int y.2), (0, dV)] [] I o) (qr : ∀ v I, Q (.inr v) I → o = (some (.int v), HH I)) (y : Int32 × Int32) (I : MI) (r : (Int32 × Int32) ⊕ (Int32)) (I1 : MI) (h : B_R_readAny_9 y I = some (r, I1)) (hq : Q r I1) : At L X (d + 1) 235 9 [(112, .ref 207), (0, .int y.1), (0, .int y.2), (0, dV)] [] I o := by
  refine wf_ok z_R_readAny hcs ?_ ?_ _ _ _ _ _ ⟨rfl, trivial, trivial, trivial, trivial⟩ trivial (unm_refl _ _) ((congrFun (e_b_R_readAny_9 (L := L) (X := X) F_R_errs F_R_isSign F_R_isWord F_R_readCompared F_R_reads F_R_settles F_R_waits K_R_readAny_33 y) I).trans h)
  · intro pc ls st I2 h1 h2 h3 h
    rcases mC_ok h with ⟨hb, h⟩ | ⟨_, h⟩
    · have e := Nat.eq_of_beq_eq_true hb
      subst e
      obtain ⟨hst, h⟩ := mN_ok h
      subst hst
      obtain ⟨a1, n1, h⟩ := gI_ok h
      obtain ⟨a2, n2, h⟩ := gI_ok h
      obtain ⟨n3, h⟩ := gD_ok h
      refine at_leaf (ls2 := [(112, .ref 207), (0, .int a1), (0, .int a2), (0, dV)]) h3.1 ⟨Or.inr ⟨_, (h3.2 0 rfl).trans rfl⟩, Or.inr n1, Or.inr n2, Or.inl ⟨rfl, n3⟩, trivial⟩ ?_
      cases h; exact qb _ _ hq
    rcases mC_ok h with ⟨hb, h⟩ | ⟨_, h⟩
    · have e := Nat.eq_of_beq_eq_true hb
      subst e
      obtain ⟨hst, h⟩ := mN_ok h
      subst hst
      obtain ⟨a1, n1, h⟩ := gI_ok h
      obtain ⟨a2, n2, h⟩ := gI_ok h
      obtain ⟨a3, n3, h⟩ := gI_ok h
      refine at_leaf (ls2 := [(112, .ref 207), (0, .int a1), (0, .int a2), (0, .int a3)]) h3.1 ⟨Or.inr ⟨_, (h3.2 0 rfl).trans rfl⟩, Or.inr n1, Or.inr n2, Or.inr n3, trivial⟩ ?_
      exact s_R_readAny_33 hcs a1 a2 a3 qb qr _ _ _ h hq
    cases h
  · intro v I2 _ h
    split at h
    · cases h; exact qr _ _ hq
    · cases h
def K_R_readAny_9 (x1 : Int32) (x2 : Int32) : M (Int32) :=
  lp (B_R_readAny_9) FU (x1, x2)
theorem s_R_readAny_9 {d : Nat} (hcs : AllS L X d (cs_R_readAny F_R_errs F_R_isSign F_R_isWord F_R_readCompared F_R_reads F_R_settles F_R_waits)) (x1 : Int32) (x2 : Int32) {o : Option Value × PH} {Q : (Int32) → MI → Prop} (q0 : ∀ v I, Q v I → o = (some (.int v), HH I)) (I : MI) (r : Int32) (I1 : MI) (h : K_R_readAny_9 x1 x2 I = some (r, I1)) (hq : Q r I1) : At L X (d + 1) 235 9 [(112, .ref 207), (0, .int x1), (0, .int x2), (0, dV)] [] I o := by
  unfold K_R_readAny_9 at h
  have w0 := fun w => at_lp (body := B_R_readAny_9) (P := (fun (y : Int32 × Int32) I => At L X (d + 1) 235 9 [(112, .ref 207), (0, .int y.1), (0, .int y.2), (0, dV)] [] I o)) (Q := (fun (e : Int32) I => Q e I)) w FU (x1, x2) I r I1 h hq
  refine w0 ?_
  intro y I r I1 h hq
  exact b_R_readAny_9 hcs (Q := SQ (fun (y : Int32 × Int32) I => At L X (d + 1) 235 9 [(112, .ref 207), (0, .int y.1), (0, .int y.2), (0, dV)] [] I o) (fun (e : Int32) I => Q e I)) (fun _ _ w => w) q0 y I r I1 h hq
def F_R_readAny : M (Int32) :=
  bn (wr 207 31 (0 : Int32)) fun _ =>
  K_R_readAny_9 (0 : Int32) (1 : Int32)
set_option maxRecDepth 4000 in
theorem e_s_R_readAny_0 (f_R_errs : Int32 → M Int32) (f_R_isSign : Int32 → M Int32) (f_R_isWord : Int32 → M Int32) (f_R_readCompared : M Int32) (f_R_reads : M Unit) (f_R_settles : Int32 → M Unit) (f_R_waits : Int32 → M Unit) (k_9 : Int32 → Int32 → M (Int32)) : wf (β := Int32) L X q_R_readAny 1 (cs_R_readAny f_R_errs f_R_isSign f_R_isWord f_R_readCompared f_R_reads f_R_settles f_R_waits) [1, 2] [9, 33] (fun pc ls st => mC (Nat.beq pc 9) (mN st <| gI ls 1 fun a1 => gI ls 2 fun a2 => gD ls 3 <| k_9 a1 a2) (fl)) (fun v => match v with | some (_, .int x) => rt x | _ => fl) 139 0 [(112, .ref 207), (0, dV), (0, dV), (0, dV)] [] = (bn (wr 207 31 (0 : Int32)) fun _ =>
  k_9 (0 : Int32) (1 : Int32)) := rfl
theorem s_R_readAny_0 {d : Nat} (hcs : AllS L X d (cs_R_readAny F_R_errs F_R_isSign F_R_isWord F_R_readCompared F_R_reads F_R_settles F_R_waits)) {o : Option Value × PH} {Q : (Int32) → MI → Prop} (q0 : ∀ v I, Q v I → o = (some (.int v), HH I)) (I : MI) (r : Int32) (I1 : MI) (h : F_R_readAny I = some (r, I1)) (hq : Q r I1) : At L X (d + 1) 235 0 [(112, .ref 207), (0, dV), (0, dV), (0, dV)] [] I o := by
  refine wf_ok z_R_readAny hcs ?_ ?_ _ _ _ _ _ ⟨rfl, trivial, trivial, trivial, trivial⟩ trivial (unm_refl _ _) ((congrFun (e_s_R_readAny_0 (L := L) (X := X) F_R_errs F_R_isSign F_R_isWord F_R_readCompared F_R_reads F_R_settles F_R_waits K_R_readAny_9) I).trans h)
  · intro pc ls st I2 h1 h2 h3 h
    rcases mC_ok h with ⟨hb, h⟩ | ⟨_, h⟩
    · have e := Nat.eq_of_beq_eq_true hb
      subst e
      obtain ⟨hst, h⟩ := mN_ok h
      subst hst
      obtain ⟨a1, n1, h⟩ := gI_ok h
      obtain ⟨a2, n2, h⟩ := gI_ok h
      obtain ⟨n3, h⟩ := gD_ok h
      refine at_leaf (ls2 := [(112, .ref 207), (0, .int a1), (0, .int a2), (0, dV)]) h3.1 ⟨Or.inr ⟨_, (h3.2 0 rfl).trans rfl⟩, Or.inr n1, Or.inr n2, Or.inl ⟨rfl, n3⟩, trivial⟩ ?_
      exact s_R_readAny_9 hcs a1 a2 q0 _ _ _ h hq
    cases h
  · intro v I2 _ h
    split at h
    · cases h; exact q0 _ _ hq
    · cases h
theorem w_R_readAny {d : Nat} (hcs : AllS L X d (cs_R_readAny F_R_errs F_R_isSign F_R_isWord F_R_readCompared F_R_reads F_R_settles F_R_waits)) : Snd L X (d + 1) 235 1 (W_R_readAny F_R_readAny) := by
  refine ⟨_, z_R_readAny, rfl, fun β args k I r hty hlen h => ?_⟩
  unfold W_R_readAny at h
  split at h
  · rename_i t0 a0
    obtain ⟨hb0, h⟩ := mB_ok h
    have e0 := Nat.eq_of_beq_eq_true hb0
    have g0 : okB 112 a0 = true := e0 ▸ hty.1
    have e20 := one_112 g0
    subst e20
    obtain ⟨v, I1, h1, h2⟩ := bn_some h
    refine ⟨gf_obj (c := 12) (by decide) g0, rfl, some (0, .int v), I1, trivial, ?_, h2⟩
    exact s_R_readAny_0 hcs   (Q := fun w I => w = v ∧ I = I1) (fun w I q => by obtain ⟨rfl, rfl⟩ := q; rfl) I v I1 h1 ⟨rfl, rfl⟩
  · cases h
theorem S_R_readAny {d : Nat} (hd : 8 ≤ d) : Snd L X d 235 1 (W_R_readAny F_R_readAny) := by
  obtain ⟨e, rfl⟩ : ∃ e, d = e + 1 := ⟨d - 1, by omega⟩
  exact w_R_readAny ⟨S_R_errs (by omega), S_R_isSign (by omega), S_R_isWord (by omega), S_R_readCompared (by omega), S_R_reads (by omega), S_R_settles (by omega), S_R_waits (by omega), trivial⟩
set_option maxRecDepth 100000 in
theorem z_R_readLaw : pT[228]? = some (q_R_readLaw, 1, 3, 1, 12) := rfl
def W_R_readLaw (F : M Int32) : CSem := fun _ args k => match args with
  | [(t0, .ref a0)] => mB (Nat.beq t0 112) <| bn (F) fun v => k (some (0, .int v))
  | _ => fl
def cs_R_readLaw (f_R_errs : Int32 → M Int32) (f_R_isLineWord : M Int32) (f_R_isSign : Int32 → M Int32) (f_R_isWord : Int32 → M Int32) (f_R_readAny : M Int32) (f_R_readSum : M Int32) (f_R_reads : M Unit) : List (Nat × Nat × CSem) := [(215, 2, W_R_errs f_R_errs), (229, 1, W_R_isLineWord f_R_isLineWord), (220, 2, W_R_isSign f_R_isSign), (214, 2, W_R_isWord f_R_isWord), (235, 1, W_R_readAny f_R_readAny), (230, 1, W_R_readSum f_R_readSum), (207, 1, W_R_reads f_R_reads)]
def K_R_readLaw_92 (x1 : Int32) (x2 : Int32) : M ((Int32) ⊕ ((Int32) ⊕ Int32)) :=
  bn (rd 207 28) fun v1 =>
  bn (sr 48 222 x2 v1) fun _ =>
  bn (F_R_isSign (59 : Int32)) fun v2 =>
  (if v2 = 0 then
    bn (F_R_errs (1 : Int32)) fun v3 =>
    rt (.inr (.inr v3))
  else
    bn (F_R_reads) fun _ =>
    rt (.inl (x1 + (1 : Int32))))
set_option maxRecDepth 4000 in
theorem e_s_R_readLaw_92 (f_R_errs : Int32 → M Int32) (f_R_isLineWord : M Int32) (f_R_isSign : Int32 → M Int32) (f_R_isWord : Int32 → M Int32) (f_R_readAny : M Int32) (f_R_readSum : M Int32) (f_R_reads : M Unit) (x1 : Int32) (x2 : Int32) : wf (β := (Int32) ⊕ ((Int32) ⊕ Int32)) L X q_R_readLaw 1 (cs_R_readLaw f_R_errs f_R_isLineWord f_R_isSign f_R_isWord f_R_readAny f_R_readSum f_R_reads) [1] [2, 92, 128] (fun pc ls st => mC (Nat.beq pc 2) (mN st <| gI ls 1 fun a1 => gD ls 2 <| rt (.inl a1)) (fl)) (fun v => match v with | some (_, .int x) => rt (.inr (.inr x)) | _ => fl) 89 92 [(112, .ref 207), (0, .int x1), (0, .int x2)] [] = (bn (rd 207 28) fun v1 =>
  bn (sr 48 222 x2 v1) fun _ =>
  bn (f_R_isSign (59 : Int32)) fun v2 =>
  (if v2 = 0 then
    bn (f_R_errs (1 : Int32)) fun v3 =>
    rt (.inr (.inr v3))
  else
    bn (f_R_reads) fun _ =>
    rt (.inl (x1 + (1 : Int32))))) := rfl
theorem s_R_readLaw_92 {d : Nat} (hcs : AllS L X d (cs_R_readLaw F_R_errs F_R_isLineWord F_R_isSign F_R_isWord F_R_readAny F_R_readSum F_R_reads)) (x1 : Int32) (x2 : Int32) {o : Option Value × PH} {Q : ((Int32) ⊕ ((Int32) ⊕ Int32)) → MI → Prop} (qb : ∀ y I, Q (.inl y) I → At L X (d + 1) 228 2 [(112, .ref 207), (0, .int y), (0, dV)] [] I o) (qe128 : ∀ y I, Q (.inr (.inl y)) I → At L X (d + 1) 228 128 [(112, .ref 207), (0, .int y), (0, dV)] [] I o) (qr : ∀ v I, Q (.inr (.inr v)) I → o = (some (.int v), HH I)) (I : MI) (r : (Int32) ⊕ ((Int32) ⊕ Int32)) (I1 : MI) (h : K_R_readLaw_92 x1 x2 I = some (r, I1)) (hq : Q r I1) : At L X (d + 1) 228 92 [(112, .ref 207), (0, .int x1), (0, .int x2)] [] I o := by
  refine wf_ok z_R_readLaw hcs ?_ ?_ _ _ _ _ _ ⟨rfl, trivial, trivial, trivial⟩ trivial (unm_refl _ _) ((congrFun (e_s_R_readLaw_92 (L := L) (X := X) F_R_errs F_R_isLineWord F_R_isSign F_R_isWord F_R_readAny F_R_readSum F_R_reads x1 x2) I).trans h)
  · intro pc ls st I2 h1 h2 h3 h
    rcases mC_ok h with ⟨hb, h⟩ | ⟨_, h⟩
    · have e := Nat.eq_of_beq_eq_true hb
      subst e
      obtain ⟨hst, h⟩ := mN_ok h
      subst hst
      obtain ⟨a1, n1, h⟩ := gI_ok h
      obtain ⟨n2, h⟩ := gD_ok h
      refine at_leaf (ls2 := [(112, .ref 207), (0, .int a1), (0, dV)]) h3.1 ⟨Or.inr ⟨_, (h3.2 0 rfl).trans rfl⟩, Or.inr n1, Or.inl ⟨rfl, n2⟩, trivial⟩ ?_
      cases h; exact qb _ _ hq
    cases h
  · intro v I2 _ h
    split at h
    · cases h; exact qr _ _ hq
    · cases h
def B_R_readLaw_2 (y : Int32) : M ((Int32) ⊕ ((Int32) ⊕ Int32)) :=
  bn (F_R_isLineWord) fun v1 =>
  (if v1 = 0 then
    rt (.inr (.inl y))
  else
    (if y = (16 : Int32) then
      bn (F_R_errs (3 : Int32)) fun v8 =>
      rt (.inr (.inr v8))
    else
      bn (rd 207 18) fun v2 =>
      bn (sr 48 219 ((32 : Int32) + y) v2) fun _ =>
      bn (F_R_reads) fun _ =>
      bn (rd 207 28) fun v3 =>
      bn (sr 48 220 ((32 : Int32) + y) v3) fun _ =>
      bn (F_R_readSum) fun v4 =>
      (if v4 = (-1 : Int32) then
        rt (.inr (.inr (-1 : Int32)))
      else
        bn (rd 207 28) fun v5 =>
        bn (sr 48 221 ((32 : Int32) + y) v5) fun _ =>
        bn (F_R_isWord (3 : Int32)) fun v6 =>
        (if v6 = 0 then
          K_R_readLaw_92 y ((32 : Int32) + y)
        else
          bn (F_R_reads) fun _ =>
          bn (F_R_readAny) fun v7 =>
          (if v7 = (-1 : Int32) then
            rt (.inr (.inr (-1 : Int32)))
          else
            K_R_readLaw_92 y ((32 : Int32) + y))))))
set_option maxRecDepth 4000 in
theorem e_b_R_readLaw_2 (f_R_errs : Int32 → M Int32) (f_R_isLineWord : M Int32) (f_R_isSign : Int32 → M Int32) (f_R_isWord : Int32 → M Int32) (f_R_readAny : M Int32) (f_R_readSum : M Int32) (f_R_reads : M Unit) (k_92 : Int32 → Int32 → M ((Int32) ⊕ ((Int32) ⊕ Int32))) (y : Int32) : wf (β := (Int32) ⊕ ((Int32) ⊕ Int32)) L X q_R_readLaw 1 (cs_R_readLaw f_R_errs f_R_isLineWord f_R_isSign f_R_isWord f_R_readAny f_R_readSum f_R_reads) [2] [2, 92, 128] (fun pc ls st => mC (Nat.beq pc 92) (mN st <| gI ls 2 fun a2 => k_92 y a2) (mC (Nat.beq pc 128) (mN st <| gD ls 2 <| rt (.inr (.inl y))) (fl))) (fun v => match v with | some (_, .int x) => rt (.inr (.inr x)) | _ => fl) 89 2 [(112, .ref 207), (0, .int y), (0, dV)] [] = (bn (f_R_isLineWord) fun v1 =>
  (if v1 = 0 then
    rt (.inr (.inl y))
  else
    (if y = (16 : Int32) then
      bn (f_R_errs (3 : Int32)) fun v8 =>
      rt (.inr (.inr v8))
    else
      bn (rd 207 18) fun v2 =>
      bn (sr 48 219 ((32 : Int32) + y) v2) fun _ =>
      bn (f_R_reads) fun _ =>
      bn (rd 207 28) fun v3 =>
      bn (sr 48 220 ((32 : Int32) + y) v3) fun _ =>
      bn (f_R_readSum) fun v4 =>
      (if v4 = (-1 : Int32) then
        rt (.inr (.inr (-1 : Int32)))
      else
        bn (rd 207 28) fun v5 =>
        bn (sr 48 221 ((32 : Int32) + y) v5) fun _ =>
        bn (f_R_isWord (3 : Int32)) fun v6 =>
        (if v6 = 0 then
          k_92 y ((32 : Int32) + y)
        else
          bn (f_R_reads) fun _ =>
          bn (f_R_readAny) fun v7 =>
          (if v7 = (-1 : Int32) then
            rt (.inr (.inr (-1 : Int32)))
          else
            k_92 y ((32 : Int32) + y))))))) := rfl
theorem b_R_readLaw_2 {d : Nat} (hcs : AllS L X d (cs_R_readLaw F_R_errs F_R_isLineWord F_R_isSign F_R_isWord F_R_readAny F_R_readSum F_R_reads)) {o : Option Value × PH} {Q : ((Int32) ⊕ ((Int32) ⊕ Int32)) → MI → Prop} (qb : ∀ y I, Q (.inl y) I → At L X (d + 1) 228 2 [(112, .ref 207), (0, .int y), (0, dV)] [] I o) (qe128 : ∀ y I, Q (.inr (.inl y)) I → At L X (d + 1) 228 128 [(112, .ref 207), (0, .int y), (0, dV)] [] I o) (qr : ∀ v I, Q (.inr (.inr v)) I → o = (some (.int v), HH I)) (y : Int32) (I : MI) (r : (Int32) ⊕ ((Int32) ⊕ Int32)) (I1 : MI) (h : B_R_readLaw_2 y I = some (r, I1)) (hq : Q r I1) : At L X (d + 1) 228 2 [(112, .ref 207), (0, .int y), (0, dV)] [] I o := by
  refine wf_ok z_R_readLaw hcs ?_ ?_ _ _ _ _ _ ⟨rfl, trivial, trivial, trivial⟩ trivial (unm_refl _ _) ((congrFun (e_b_R_readLaw_2 (L := L) (X := X) F_R_errs F_R_isLineWord F_R_isSign F_R_isWord F_R_readAny F_R_readSum F_R_reads K_R_readLaw_92 y) I).trans h)
  · intro pc ls st I2 h1 h2 h3 h
    rcases mC_ok h with ⟨hb, h⟩ | ⟨_, h⟩
    · have e := Nat.eq_of_beq_eq_true hb
      subst e
      obtain ⟨hst, h⟩ := mN_ok h
      subst hst
      obtain ⟨a2, n2, h⟩ := gI_ok h
      refine at_leaf (ls2 := [(112, .ref 207), (0, .int y), (0, .int a2)]) h3.1 ⟨Or.inr ⟨_, (h3.2 0 rfl).trans rfl⟩, Or.inr ⟨_, (h3.2 1 rfl).trans rfl⟩, Or.inr n2, trivial⟩ ?_
      exact s_R_readLaw_92 hcs y a2 qb qe128 qr _ _ _ h hq
    rcases mC_ok h with ⟨hb, h⟩ | ⟨_, h⟩
    · have e := Nat.eq_of_beq_eq_true hb
      subst e
      obtain ⟨hst, h⟩ := mN_ok h
      subst hst
      obtain ⟨n2, h⟩ := gD_ok h
      refine at_leaf (ls2 := [(112, .ref 207), (0, .int y), (0, dV)]) h3.1 ⟨Or.inr ⟨_, (h3.2 0 rfl).trans rfl⟩, Or.inr ⟨_, (h3.2 1 rfl).trans rfl⟩, Or.inl ⟨rfl, n2⟩, trivial⟩ ?_
      cases h; exact qe128 _ _ hq
    cases h
  · intro v I2 _ h
    split at h
    · cases h; exact qr _ _ hq
    · cases h
def K_R_readLaw_128 (x1 : Int32) : M (Int32) :=
  bn (rd 207 17) fun v1 =>
  (if v1 = 0 then
    rt x1
  else
    bn (F_R_errs (1 : Int32)) fun v2 =>
    rt v2)
set_option maxRecDepth 4000 in
theorem e_s_R_readLaw_128 (f_R_errs : Int32 → M Int32) (f_R_isLineWord : M Int32) (f_R_isSign : Int32 → M Int32) (f_R_isWord : Int32 → M Int32) (f_R_readAny : M Int32) (f_R_readSum : M Int32) (f_R_reads : M Unit) (x1 : Int32) : wf (β := Int32) L X q_R_readLaw 1 (cs_R_readLaw f_R_errs f_R_isLineWord f_R_isSign f_R_isWord f_R_readAny f_R_readSum f_R_reads) [] [2, 92, 128] (fun _ _ _ => fl) (fun v => match v with | some (_, .int x) => rt x | _ => fl) 89 128 [(112, .ref 207), (0, .int x1), (0, dV)] [] = (bn (rd 207 17) fun v1 =>
  (if v1 = 0 then
    rt x1
  else
    bn (f_R_errs (1 : Int32)) fun v2 =>
    rt v2)) := rfl
theorem s_R_readLaw_128 {d : Nat} (hcs : AllS L X d (cs_R_readLaw F_R_errs F_R_isLineWord F_R_isSign F_R_isWord F_R_readAny F_R_readSum F_R_reads)) (x1 : Int32) {o : Option Value × PH} {Q : (Int32) → MI → Prop} (q0 : ∀ v I, Q v I → o = (some (.int v), HH I)) (I : MI) (r : Int32) (I1 : MI) (h : K_R_readLaw_128 x1 I = some (r, I1)) (hq : Q r I1) : At L X (d + 1) 228 128 [(112, .ref 207), (0, .int x1), (0, dV)] [] I o := by
  refine wf_ok z_R_readLaw hcs ?_ ?_ _ _ _ _ _ ⟨rfl, trivial, trivial, trivial⟩ trivial (unm_refl _ _) ((congrFun (e_s_R_readLaw_128 (L := L) (X := X) F_R_errs F_R_isLineWord F_R_isSign F_R_isWord F_R_readAny F_R_readSum F_R_reads x1) I).trans h)
  · intro pc ls st I2 h1 h2 h3 h
    cases h
  · intro v I2 _ h
    split at h
    · cases h; exact q0 _ _ hq
    · cases h
def K_R_readLaw_2 (x1 : Int32) : M (Int32) :=
  bn (lp (B_R_readLaw_2) FU x1) fun e => match e with
  | .inl e => K_R_readLaw_128 e
  | .inr e => rt e
theorem s_R_readLaw_2 {d : Nat} (hcs : AllS L X d (cs_R_readLaw F_R_errs F_R_isLineWord F_R_isSign F_R_isWord F_R_readAny F_R_readSum F_R_reads)) (x1 : Int32) {o : Option Value × PH} {Q : (Int32) → MI → Prop} (q0 : ∀ v I, Q v I → o = (some (.int v), HH I)) (I : MI) (r : Int32) (I1 : MI) (h : K_R_readLaw_2 x1 I = some (r, I1)) (hq : Q r I1) : At L X (d + 1) 228 2 [(112, .ref 207), (0, .int x1), (0, dV)] [] I o := by
  unfold K_R_readLaw_2 at h
  obtain ⟨e, I2, h1, h2⟩ := bn_some h
  have w0 := fun w => at_lp (body := B_R_readLaw_2) (P := (fun (y : Int32) I => At L X (d + 1) 228 2 [(112, .ref 207), (0, .int y), (0, dV)] [] I o)) (Q := (fun (e : (Int32) ⊕ Int32) I => (match e with | .inl e => K_R_readLaw_128 e | .inr e => rt e : M (Int32)) I = some (r, I1))) w FU x1 I e I2 h1 h2
  refine w0 ?_
  intro y I r2 I3 h hq2
  exact b_R_readLaw_2 hcs (Q := SQ (fun (y : Int32) I => At L X (d + 1) 228 2 [(112, .ref 207), (0, .int y), (0, dV)] [] I o) (fun (e : (Int32) ⊕ Int32) I => (match e with | .inl e => K_R_readLaw_128 e | .inr e => rt e : M (Int32)) I = some (r, I1))) (fun _ _ w => w) (fun y I w => s_R_readLaw_128 hcs y q0 _ _ _ w hq) (fun v I w => by cases w; exact q0 _ _ hq) y I r2 I3 h hq2
def F_R_readLaw : M (Int32) :=
  K_R_readLaw_2 (0 : Int32)
set_option maxRecDepth 4000 in
theorem e_s_R_readLaw_0 (f_R_errs : Int32 → M Int32) (f_R_isLineWord : M Int32) (f_R_isSign : Int32 → M Int32) (f_R_isWord : Int32 → M Int32) (f_R_readAny : M Int32) (f_R_readSum : M Int32) (f_R_reads : M Unit) (k_2 : Int32 → M (Int32)) : wf (β := Int32) L X q_R_readLaw 1 (cs_R_readLaw f_R_errs f_R_isLineWord f_R_isSign f_R_isWord f_R_readAny f_R_readSum f_R_reads) [1] [2, 92, 128] (fun pc ls st => mC (Nat.beq pc 2) (mN st <| gI ls 1 fun a1 => gD ls 2 <| k_2 a1) (fl)) (fun v => match v with | some (_, .int x) => rt x | _ => fl) 89 0 [(112, .ref 207), (0, dV), (0, dV)] [] = (k_2 (0 : Int32)) := rfl
theorem s_R_readLaw_0 {d : Nat} (hcs : AllS L X d (cs_R_readLaw F_R_errs F_R_isLineWord F_R_isSign F_R_isWord F_R_readAny F_R_readSum F_R_reads)) {o : Option Value × PH} {Q : (Int32) → MI → Prop} (q0 : ∀ v I, Q v I → o = (some (.int v), HH I)) (I : MI) (r : Int32) (I1 : MI) (h : F_R_readLaw I = some (r, I1)) (hq : Q r I1) : At L X (d + 1) 228 0 [(112, .ref 207), (0, dV), (0, dV)] [] I o := by
  refine wf_ok z_R_readLaw hcs ?_ ?_ _ _ _ _ _ ⟨rfl, trivial, trivial, trivial⟩ trivial (unm_refl _ _) ((congrFun (e_s_R_readLaw_0 (L := L) (X := X) F_R_errs F_R_isLineWord F_R_isSign F_R_isWord F_R_readAny F_R_readSum F_R_reads K_R_readLaw_2) I).trans h)
  · intro pc ls st I2 h1 h2 h3 h
    rcases mC_ok h with ⟨hb, h⟩ | ⟨_, h⟩
    · have e := Nat.eq_of_beq_eq_true hb
      subst e
      obtain ⟨hst, h⟩ := mN_ok h
      subst hst
      obtain ⟨a1, n1, h⟩ := gI_ok h
      obtain ⟨n2, h⟩ := gD_ok h
      refine at_leaf (ls2 := [(112, .ref 207), (0, .int a1), (0, dV)]) h3.1 ⟨Or.inr ⟨_, (h3.2 0 rfl).trans rfl⟩, Or.inr n1, Or.inl ⟨rfl, n2⟩, trivial⟩ ?_
      exact s_R_readLaw_2 hcs a1 q0 _ _ _ h hq
    cases h
  · intro v I2 _ h
    split at h
    · cases h; exact q0 _ _ hq
    · cases h
theorem w_R_readLaw {d : Nat} (hcs : AllS L X d (cs_R_readLaw F_R_errs F_R_isLineWord F_R_isSign F_R_isWord F_R_readAny F_R_readSum F_R_reads)) : Snd L X (d + 1) 228 1 (W_R_readLaw F_R_readLaw) := by
  refine ⟨_, z_R_readLaw, rfl, fun β args k I r hty hlen h => ?_⟩
  unfold W_R_readLaw at h
  split at h
  · rename_i t0 a0
    obtain ⟨hb0, h⟩ := mB_ok h
    have e0 := Nat.eq_of_beq_eq_true hb0
    have g0 : okB 112 a0 = true := e0 ▸ hty.1
    have e20 := one_112 g0
    subst e20
    obtain ⟨v, I1, h1, h2⟩ := bn_some h
    refine ⟨gf_obj (c := 12) (by decide) g0, rfl, some (0, .int v), I1, trivial, ?_, h2⟩
    exact s_R_readLaw_0 hcs   (Q := fun w I => w = v ∧ I = I1) (fun w I q => by obtain ⟨rfl, rfl⟩ := q; rfl) I v I1 h1 ⟨rfl, rfl⟩
  · cases h
theorem S_R_readLaw {d : Nat} (hd : 9 ≤ d) : Snd L X d 228 1 (W_R_readLaw F_R_readLaw) := by
  obtain ⟨e, rfl⟩ : ∃ e, d = e + 1 := ⟨d - 1, by omega⟩
  exact w_R_readLaw ⟨S_R_errs (by omega), S_R_isLineWord (by omega), S_R_isSign (by omega), S_R_isWord (by omega), S_R_readAny (by omega), S_R_readSum (by omega), S_R_reads (by omega), trivial⟩
set_option maxRecDepth 100000 in
theorem z_R_readShare : pT[216]? = some (q_R_readShare, 2, 2, 1, 12) := rfl
def W_R_readShare (F : Int32 → M Int32) : CSem := fun _ args k => match args with
  | [(t0, .ref a0), (_, .int a1)] => mB (Nat.beq t0 112) <| bn (F a1) fun v => k (some (0, .int v))
  | _ => fl
def cs_R_readShare (f_R_readMark : Int32 → M Int32) (f_R_readTold : Int32 → Int32 → Int32 → M Int32) : List (Nat × Nat × CSem) := [(219, 2, W_R_readMark f_R_readMark), (217, 4, W_R_readTold f_R_readTold)]
def F_R_readShare (x1 : Int32) : M (Int32) :=
  bn (rd 207 7) fun v1 =>
  bn (F_R_readTold (16 : Int32) (0 : Int32) (v1 - (1 : Int32))) fun v2 =>
  bn (sr 128 226 x1 v2) fun _ =>
  bn (ld 128 226 x1) fun v3 =>
  (if v3 = (-1 : Int32) then
    rt (-1 : Int32)
  else
    bn (F_R_readTold (17 : Int32) (0 : Int32) (23 : Int32)) fun v4 =>
    bn (sr 128 226 (x1 + (1 : Int32)) v4) fun _ =>
    bn (ld 128 226 (x1 + (1 : Int32))) fun v5 =>
    (if v5 = (-1 : Int32) then
      rt (-1 : Int32)
    else
      bn (ld 128 226 (x1 + (1 : Int32))) fun v6 =>
      bn (F_R_readTold (18 : Int32) v6 (23 : Int32)) fun v7 =>
      bn (sr 128 226 (x1 + (2 : Int32)) v7) fun _ =>
      bn (ld 128 226 (x1 + (2 : Int32))) fun v8 =>
      (if v8 = (-1 : Int32) then
        rt (-1 : Int32)
      else
        bn (F_R_readTold (19 : Int32) (0 : Int32) (9 : Int32)) fun v9 =>
        bn (sr 128 226 (x1 + (3 : Int32)) v9) fun _ =>
        bn (ld 128 226 (x1 + (3 : Int32))) fun v10 =>
        (if v10 = (-1 : Int32) then
          rt (-1 : Int32)
        else
          bn (F_R_readMark (59 : Int32)) fun v11 =>
          rt v11))))
set_option maxRecDepth 4000 in
theorem e_s_R_readShare_0 (f_R_readMark : Int32 → M Int32) (f_R_readTold : Int32 → Int32 → Int32 → M Int32) (x1 : Int32) : wf (β := Int32) L X q_R_readShare 1 (cs_R_readShare f_R_readMark f_R_readTold) [] [] (fun _ _ _ => fl) (fun v => match v with | some (_, .int x) => rt x | _ => fl) 97 0 [(112, .ref 207), (0, .int x1)] [] = (bn (rd 207 7) fun v1 =>
  bn (f_R_readTold (16 : Int32) (0 : Int32) (v1 - (1 : Int32))) fun v2 =>
  bn (sr 128 226 x1 v2) fun _ =>
  bn (ld 128 226 x1) fun v3 =>
  (if v3 = (-1 : Int32) then
    rt (-1 : Int32)
  else
    bn (f_R_readTold (17 : Int32) (0 : Int32) (23 : Int32)) fun v4 =>
    bn (sr 128 226 (x1 + (1 : Int32)) v4) fun _ =>
    bn (ld 128 226 (x1 + (1 : Int32))) fun v5 =>
    (if v5 = (-1 : Int32) then
      rt (-1 : Int32)
    else
      bn (ld 128 226 (x1 + (1 : Int32))) fun v6 =>
      bn (f_R_readTold (18 : Int32) v6 (23 : Int32)) fun v7 =>
      bn (sr 128 226 (x1 + (2 : Int32)) v7) fun _ =>
      bn (ld 128 226 (x1 + (2 : Int32))) fun v8 =>
      (if v8 = (-1 : Int32) then
        rt (-1 : Int32)
      else
        bn (f_R_readTold (19 : Int32) (0 : Int32) (9 : Int32)) fun v9 =>
        bn (sr 128 226 (x1 + (3 : Int32)) v9) fun _ =>
        bn (ld 128 226 (x1 + (3 : Int32))) fun v10 =>
        (if v10 = (-1 : Int32) then
          rt (-1 : Int32)
        else
          bn (f_R_readMark (59 : Int32)) fun v11 =>
          rt v11))))) := rfl
theorem s_R_readShare_0 {d : Nat} (hcs : AllS L X d (cs_R_readShare F_R_readMark F_R_readTold)) (x1 : Int32) {o : Option Value × PH} {Q : (Int32) → MI → Prop} (q0 : ∀ v I, Q v I → o = (some (.int v), HH I)) (I : MI) (r : Int32) (I1 : MI) (h : F_R_readShare x1 I = some (r, I1)) (hq : Q r I1) : At L X (d + 1) 216 0 [(112, .ref 207), (0, .int x1)] [] I o := by
  refine wf_ok z_R_readShare hcs ?_ ?_ _ _ _ _ _ ⟨rfl, trivial, trivial⟩ trivial (unm_refl _ _) ((congrFun (e_s_R_readShare_0 (L := L) (X := X) F_R_readMark F_R_readTold x1) I).trans h)
  · intro pc ls st I2 h1 h2 h3 h
    cases h
  · intro v I2 _ h
    split at h
    · cases h; exact q0 _ _ hq
    · cases h
theorem w_R_readShare {d : Nat} (hcs : AllS L X d (cs_R_readShare F_R_readMark F_R_readTold)) : Snd L X (d + 1) 216 2 (W_R_readShare F_R_readShare) := by
  refine ⟨_, z_R_readShare, rfl, fun β args k I r hty hlen h => ?_⟩
  unfold W_R_readShare at h
  split at h
  · rename_i t0 a0 u1 a1
    obtain ⟨hb0, h⟩ := mB_ok h
    have e0 := Nat.eq_of_beq_eq_true hb0
    have g0 : okB 112 a0 = true := e0 ▸ hty.1
    have e20 := one_112 g0
    subst e20
    obtain ⟨v, I1, h1, h2⟩ := bn_some h
    refine ⟨gf_obj (c := 12) (by decide) g0, rfl, some (0, .int v), I1, trivial, ?_, h2⟩
    exact s_R_readShare_0 hcs a1  (Q := fun w I => w = v ∧ I = I1) (fun w I q => by obtain ⟨rfl, rfl⟩ := q; rfl) I v I1 h1 ⟨rfl, rfl⟩
  · cases h
theorem S_R_readShare {d : Nat} (hd : 6 ≤ d) : Snd L X d 216 2 (W_R_readShare F_R_readShare) := by
  obtain ⟨e, rfl⟩ : ∃ e, d = e + 1 := ⟨d - 1, by omega⟩
  exact w_R_readShare ⟨S_R_readMark (by omega), S_R_readTold (by omega), trivial⟩
set_option maxRecDepth 100000 in
theorem z_R_readShares : pT[213]? = some (q_R_readShares, 1, 2, 1, 12) := rfl
def W_R_readShares (F : M Int32) : CSem := fun _ args k => match args with
  | [(t0, .ref a0)] => mB (Nat.beq t0 112) <| bn (F) fun v => k (some (0, .int v))
  | _ => fl
def cs_R_readShares (f_R_errs : Int32 → M Int32) (f_R_isWord : Int32 → M Int32) (f_R_readShare : Int32 → M Int32) : List (Nat × Nat × CSem) := [(215, 2, W_R_errs f_R_errs), (214, 2, W_R_isWord f_R_isWord), (216, 2, W_R_readShare f_R_readShare)]
def B_R_readShares_2 (y : Int32) : M ((Int32) ⊕ ((Int32) ⊕ Int32)) :=
  bn (F_R_isWord (16 : Int32)) fun v1 =>
  (if v1 = 0 then
    rt (.inr (.inl y))
  else
    (if y = (16 : Int32) then
      bn (F_R_errs (3 : Int32)) fun v3 =>
      rt (.inr (.inr v3))
    else
      bn (F_R_readShare ((64 : Int32) + ((4 : Int32) * y))) fun v2 =>
      (if v2 = (-1 : Int32) then
        rt (.inr (.inr (-1 : Int32)))
      else
        rt (.inl (y + (1 : Int32))))))
set_option maxRecDepth 4000 in
theorem e_b_R_readShares_2 (f_R_errs : Int32 → M Int32) (f_R_isWord : Int32 → M Int32) (f_R_readShare : Int32 → M Int32) (y : Int32) : wf (β := (Int32) ⊕ ((Int32) ⊕ Int32)) L X q_R_readShares 1 (cs_R_readShares f_R_errs f_R_isWord f_R_readShare) [1] [2, 46] (fun pc ls st => mC (Nat.beq pc 2) (mN st <| gI ls 1 fun a1 => rt (.inl a1)) (mC (Nat.beq pc 46) (mN st <| gI ls 1 fun a1 => rt (.inr (.inl a1))) (fl))) (fun v => match v with | some (_, .int x) => rt (.inr (.inr x)) | _ => fl) 43 2 [(112, .ref 207), (0, .int y)] [] = (bn (f_R_isWord (16 : Int32)) fun v1 =>
  (if v1 = 0 then
    rt (.inr (.inl y))
  else
    (if y = (16 : Int32) then
      bn (f_R_errs (3 : Int32)) fun v3 =>
      rt (.inr (.inr v3))
    else
      bn (f_R_readShare ((64 : Int32) + ((4 : Int32) * y))) fun v2 =>
      (if v2 = (-1 : Int32) then
        rt (.inr (.inr (-1 : Int32)))
      else
        rt (.inl (y + (1 : Int32))))))) := rfl
theorem b_R_readShares_2 {d : Nat} (hcs : AllS L X d (cs_R_readShares F_R_errs F_R_isWord F_R_readShare)) {o : Option Value × PH} {Q : ((Int32) ⊕ ((Int32) ⊕ Int32)) → MI → Prop} (qb : ∀ y I, Q (.inl y) I → At L X (d + 1) 213 2 [(112, .ref 207), (0, .int y)] [] I o) (qe46 : ∀ y I, Q (.inr (.inl y)) I → At L X (d + 1) 213 46 [(112, .ref 207), (0, .int y)] [] I o) (qr : ∀ v I, Q (.inr (.inr v)) I → o = (some (.int v), HH I)) (y : Int32) (I : MI) (r : (Int32) ⊕ ((Int32) ⊕ Int32)) (I1 : MI) (h : B_R_readShares_2 y I = some (r, I1)) (hq : Q r I1) : At L X (d + 1) 213 2 [(112, .ref 207), (0, .int y)] [] I o := by
  refine wf_ok z_R_readShares hcs ?_ ?_ _ _ _ _ _ ⟨rfl, trivial, trivial⟩ trivial (unm_refl _ _) ((congrFun (e_b_R_readShares_2 (L := L) (X := X) F_R_errs F_R_isWord F_R_readShare y) I).trans h)
  · intro pc ls st I2 h1 h2 h3 h
    rcases mC_ok h with ⟨hb, h⟩ | ⟨_, h⟩
    · have e := Nat.eq_of_beq_eq_true hb
      subst e
      obtain ⟨hst, h⟩ := mN_ok h
      subst hst
      obtain ⟨a1, n1, h⟩ := gI_ok h
      refine at_leaf (ls2 := [(112, .ref 207), (0, .int a1)]) h3.1 ⟨Or.inr ⟨_, (h3.2 0 rfl).trans rfl⟩, Or.inr n1, trivial⟩ ?_
      cases h; exact qb _ _ hq
    rcases mC_ok h with ⟨hb, h⟩ | ⟨_, h⟩
    · have e := Nat.eq_of_beq_eq_true hb
      subst e
      obtain ⟨hst, h⟩ := mN_ok h
      subst hst
      obtain ⟨a1, n1, h⟩ := gI_ok h
      refine at_leaf (ls2 := [(112, .ref 207), (0, .int a1)]) h3.1 ⟨Or.inr ⟨_, (h3.2 0 rfl).trans rfl⟩, Or.inr n1, trivial⟩ ?_
      cases h; exact qe46 _ _ hq
    cases h
  · intro v I2 _ h
    split at h
    · cases h; exact qr _ _ hq
    · cases h
def K_R_readShares_46 (x1 : Int32) : M (Int32) :=
  bn (rd 207 17) fun v1 =>
  (if v1 = 0 then
    rt x1
  else
    bn (F_R_errs (1 : Int32)) fun v2 =>
    rt v2)
set_option maxRecDepth 4000 in
theorem e_s_R_readShares_46 (f_R_errs : Int32 → M Int32) (f_R_isWord : Int32 → M Int32) (f_R_readShare : Int32 → M Int32) (x1 : Int32) : wf (β := Int32) L X q_R_readShares 1 (cs_R_readShares f_R_errs f_R_isWord f_R_readShare) [] [2, 46] (fun _ _ _ => fl) (fun v => match v with | some (_, .int x) => rt x | _ => fl) 43 46 [(112, .ref 207), (0, .int x1)] [] = (bn (rd 207 17) fun v1 =>
  (if v1 = 0 then
    rt x1
  else
    bn (f_R_errs (1 : Int32)) fun v2 =>
    rt v2)) := rfl
theorem s_R_readShares_46 {d : Nat} (hcs : AllS L X d (cs_R_readShares F_R_errs F_R_isWord F_R_readShare)) (x1 : Int32) {o : Option Value × PH} {Q : (Int32) → MI → Prop} (q0 : ∀ v I, Q v I → o = (some (.int v), HH I)) (I : MI) (r : Int32) (I1 : MI) (h : K_R_readShares_46 x1 I = some (r, I1)) (hq : Q r I1) : At L X (d + 1) 213 46 [(112, .ref 207), (0, .int x1)] [] I o := by
  refine wf_ok z_R_readShares hcs ?_ ?_ _ _ _ _ _ ⟨rfl, trivial, trivial⟩ trivial (unm_refl _ _) ((congrFun (e_s_R_readShares_46 (L := L) (X := X) F_R_errs F_R_isWord F_R_readShare x1) I).trans h)
  · intro pc ls st I2 h1 h2 h3 h
    cases h
  · intro v I2 _ h
    split at h
    · cases h; exact q0 _ _ hq
    · cases h
def K_R_readShares_2 (x1 : Int32) : M (Int32) :=
  bn (lp (B_R_readShares_2) FU x1) fun e => match e with
  | .inl e => K_R_readShares_46 e
  | .inr e => rt e
theorem s_R_readShares_2 {d : Nat} (hcs : AllS L X d (cs_R_readShares F_R_errs F_R_isWord F_R_readShare)) (x1 : Int32) {o : Option Value × PH} {Q : (Int32) → MI → Prop} (q0 : ∀ v I, Q v I → o = (some (.int v), HH I)) (I : MI) (r : Int32) (I1 : MI) (h : K_R_readShares_2 x1 I = some (r, I1)) (hq : Q r I1) : At L X (d + 1) 213 2 [(112, .ref 207), (0, .int x1)] [] I o := by
  unfold K_R_readShares_2 at h
  obtain ⟨e, I2, h1, h2⟩ := bn_some h
  have w0 := fun w => at_lp (body := B_R_readShares_2) (P := (fun (y : Int32) I => At L X (d + 1) 213 2 [(112, .ref 207), (0, .int y)] [] I o)) (Q := (fun (e : (Int32) ⊕ Int32) I => (match e with | .inl e => K_R_readShares_46 e | .inr e => rt e : M (Int32)) I = some (r, I1))) w FU x1 I e I2 h1 h2
  refine w0 ?_
  intro y I r2 I3 h hq2
  exact b_R_readShares_2 hcs (Q := SQ (fun (y : Int32) I => At L X (d + 1) 213 2 [(112, .ref 207), (0, .int y)] [] I o) (fun (e : (Int32) ⊕ Int32) I => (match e with | .inl e => K_R_readShares_46 e | .inr e => rt e : M (Int32)) I = some (r, I1))) (fun _ _ w => w) (fun y I w => s_R_readShares_46 hcs y q0 _ _ _ w hq) (fun v I w => by cases w; exact q0 _ _ hq) y I r2 I3 h hq2
def F_R_readShares : M (Int32) :=
  K_R_readShares_2 (0 : Int32)
set_option maxRecDepth 4000 in
theorem e_s_R_readShares_0 (f_R_errs : Int32 → M Int32) (f_R_isWord : Int32 → M Int32) (f_R_readShare : Int32 → M Int32) (k_2 : Int32 → M (Int32)) : wf (β := Int32) L X q_R_readShares 1 (cs_R_readShares f_R_errs f_R_isWord f_R_readShare) [1] [2, 46] (fun pc ls st => mC (Nat.beq pc 2) (mN st <| gI ls 1 fun a1 => k_2 a1) (fl)) (fun v => match v with | some (_, .int x) => rt x | _ => fl) 43 0 [(112, .ref 207), (0, dV)] [] = (k_2 (0 : Int32)) := rfl
theorem s_R_readShares_0 {d : Nat} (hcs : AllS L X d (cs_R_readShares F_R_errs F_R_isWord F_R_readShare)) {o : Option Value × PH} {Q : (Int32) → MI → Prop} (q0 : ∀ v I, Q v I → o = (some (.int v), HH I)) (I : MI) (r : Int32) (I1 : MI) (h : F_R_readShares I = some (r, I1)) (hq : Q r I1) : At L X (d + 1) 213 0 [(112, .ref 207), (0, dV)] [] I o := by
  refine wf_ok z_R_readShares hcs ?_ ?_ _ _ _ _ _ ⟨rfl, trivial, trivial⟩ trivial (unm_refl _ _) ((congrFun (e_s_R_readShares_0 (L := L) (X := X) F_R_errs F_R_isWord F_R_readShare K_R_readShares_2) I).trans h)
  · intro pc ls st I2 h1 h2 h3 h
    rcases mC_ok h with ⟨hb, h⟩ | ⟨_, h⟩
    · have e := Nat.eq_of_beq_eq_true hb
      subst e
      obtain ⟨hst, h⟩ := mN_ok h
      subst hst
      obtain ⟨a1, n1, h⟩ := gI_ok h
      refine at_leaf (ls2 := [(112, .ref 207), (0, .int a1)]) h3.1 ⟨Or.inr ⟨_, (h3.2 0 rfl).trans rfl⟩, Or.inr n1, trivial⟩ ?_
      exact s_R_readShares_2 hcs a1 q0 _ _ _ h hq
    cases h
  · intro v I2 _ h
    split at h
    · cases h; exact q0 _ _ hq
    · cases h
theorem w_R_readShares {d : Nat} (hcs : AllS L X d (cs_R_readShares F_R_errs F_R_isWord F_R_readShare)) : Snd L X (d + 1) 213 1 (W_R_readShares F_R_readShares) := by
  refine ⟨_, z_R_readShares, rfl, fun β args k I r hty hlen h => ?_⟩
  unfold W_R_readShares at h
  split at h
  · rename_i t0 a0
    obtain ⟨hb0, h⟩ := mB_ok h
    have e0 := Nat.eq_of_beq_eq_true hb0
    have g0 : okB 112 a0 = true := e0 ▸ hty.1
    have e20 := one_112 g0
    subst e20
    obtain ⟨v, I1, h1, h2⟩ := bn_some h
    refine ⟨gf_obj (c := 12) (by decide) g0, rfl, some (0, .int v), I1, trivial, ?_, h2⟩
    exact s_R_readShares_0 hcs   (Q := fun w I => w = v ∧ I = I1) (fun w I q => by obtain ⟨rfl, rfl⟩ := q; rfl) I v I1 h1 ⟨rfl, rfl⟩
  · cases h
theorem S_R_readShares {d : Nat} (hd : 7 ≤ d) : Snd L X d 213 1 (W_R_readShares F_R_readShares) := by
  obtain ⟨e, rfl⟩ : ∃ e, d = e + 1 := ⟨d - 1, by omega⟩
  exact w_R_readShares ⟨S_R_errs (by omega), S_R_isWord (by omega), S_R_readShare (by omega), trivial⟩
end
