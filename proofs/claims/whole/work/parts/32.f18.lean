/-! methods (written by wip/tools/gen_f.py) -/
section
variable {L : Nat} {X : Nat → Int32}
set_option maxRecDepth 100000 in
theorem z_R_readStreet : pT[227]? = some (q_R_readStreet, 1, 3, 1, 12) := rfl
def W_R_readStreet (F : M Int32) : CSem := fun _ args k => match args with
  | [(t0, .ref a0)] => mB (Nat.beq t0 112) <| bn (F) fun v => k (some (0, .int v))
  | _ => fl
def cs_R_readStreet (f_R_errs : Int32 → M Int32) (f_R_isWord : Int32 → M Int32) (f_R_readMark : Int32 → M Int32) (f_R_readNumber : Int32 → Int32 → M Int32) (f_R_readTold : Int32 → Int32 → Int32 → M Int32) (f_R_reads : M Unit) : List (Nat × Nat × CSem) := [(215, 2, W_R_errs f_R_errs), (214, 2, W_R_isWord f_R_isWord), (219, 2, W_R_readMark f_R_readMark), (218, 3, W_R_readNumber f_R_readNumber), (217, 4, W_R_readTold f_R_readTold), (207, 1, W_R_reads f_R_reads)]
def K_R_readStreet_58 (x1 : Int32) : M (Int32) :=
  bn (F_R_readNumber (0 : Int32) (9 : Int32)) fun v1 =>
  (if v1 = (-1 : Int32) then
    rt (-1 : Int32)
  else
    bn (ld 20 228 ((10 : Int32) + x1)) fun v2 =>
    bn (sr 20 228 ((10 : Int32) + x1) (v2 ||| ((1 : Int32) <<< (v1 &&& 31)))) fun _ =>
    bn (ld 20 228 ((10 : Int32) + v1)) fun v3 =>
    bn (sr 20 228 ((10 : Int32) + v1) (v3 ||| ((1 : Int32) <<< (x1 &&& 31)))) fun _ =>
    bn (F_R_readMark (59 : Int32)) fun v4 =>
    rt v4)
set_option maxRecDepth 4000 in
theorem e_s_R_readStreet_58 (f_R_errs : Int32 → M Int32) (f_R_isWord : Int32 → M Int32) (f_R_readMark : Int32 → M Int32) (f_R_readNumber : Int32 → Int32 → M Int32) (f_R_readTold : Int32 → Int32 → Int32 → M Int32) (f_R_reads : M Unit) (x1 : Int32) : wf (β := Int32) L X q_R_readStreet 1 (cs_R_readStreet f_R_errs f_R_isWord f_R_readMark f_R_readNumber f_R_readTold f_R_reads) [2] [58] (fun _ _ _ => fl) (fun v => match v with | some (_, .int x) => rt x | _ => fl) 84 58 [(112, .ref 207), (0, .int x1), (0, dV)] [] = (bn (f_R_readNumber (0 : Int32) (9 : Int32)) fun v1 =>
  (if v1 = (-1 : Int32) then
    rt (-1 : Int32)
  else
    bn (ld 20 228 ((10 : Int32) + x1)) fun v2 =>
    bn (sr 20 228 ((10 : Int32) + x1) (v2 ||| ((1 : Int32) <<< (v1 &&& 31)))) fun _ =>
    bn (ld 20 228 ((10 : Int32) + v1)) fun v3 =>
    bn (sr 20 228 ((10 : Int32) + v1) (v3 ||| ((1 : Int32) <<< (x1 &&& 31)))) fun _ =>
    bn (f_R_readMark (59 : Int32)) fun v4 =>
    rt v4)) := rfl
theorem s_R_readStreet_58 {d : Nat} (hcs : AllS L X d (cs_R_readStreet F_R_errs F_R_isWord F_R_readMark F_R_readNumber F_R_readTold F_R_reads)) (x1 : Int32) {o : Option Value × PH} {Q : (Int32) → MI → Prop} (q0 : ∀ v I, Q v I → o = (some (.int v), HH I)) (I : MI) (r : Int32) (I1 : MI) (h : K_R_readStreet_58 x1 I = some (r, I1)) (hq : Q r I1) : At L X (d + 1) 227 58 [(112, .ref 207), (0, .int x1), (0, dV)] [] I o := by
  refine wf_ok z_R_readStreet hcs ?_ ?_ _ _ _ _ _ ⟨rfl, trivial, trivial, trivial⟩ trivial (unm_refl _ _) ((congrFun (e_s_R_readStreet_58 (L := L) (X := X) F_R_errs F_R_isWord F_R_readMark F_R_readNumber F_R_readTold F_R_reads x1) I).trans h)
  · intro pc ls st I2 h1 h2 h3 h
    cases h
  · intro v I2 _ h
    split at h
    · cases h; exact q0 _ _ hq
    · cases h
def F_R_readStreet : M (Int32) :=
  bn (F_R_readTold (13 : Int32) (0 : Int32) (9 : Int32)) fun v1 =>
  (if v1 = (-1 : Int32) then
    rt (-1 : Int32)
  else
    bn (F_R_isWord (25 : Int32)) fun v2 =>
    (if v2 = 0 then
      bn (F_R_errs (1 : Int32)) fun v6 =>
      rt v6
    else
      bn (F_R_reads) fun _ =>
      bn (rd 207 17) fun v3 =>
      (if v3 = (3 : Int32) then
        bn (rd 207 18) fun v4 =>
        (if v4 = v1 then
          bn (F_R_errs (2 : Int32)) fun v5 =>
          rt v5
        else
          K_R_readStreet_58 v1)
      else
        K_R_readStreet_58 v1)))
set_option maxRecDepth 4000 in
theorem e_s_R_readStreet_0 (f_R_errs : Int32 → M Int32) (f_R_isWord : Int32 → M Int32) (f_R_readMark : Int32 → M Int32) (f_R_readNumber : Int32 → Int32 → M Int32) (f_R_readTold : Int32 → Int32 → Int32 → M Int32) (f_R_reads : M Unit) (k_58 : Int32 → M (Int32)) : wf (β := Int32) L X q_R_readStreet 1 (cs_R_readStreet f_R_errs f_R_isWord f_R_readMark f_R_readNumber f_R_readTold f_R_reads) [1] [58] (fun pc ls st => mC (Nat.beq pc 58) (mN st <| gI ls 1 fun a1 => gD ls 2 <| k_58 a1) (fl)) (fun v => match v with | some (_, .int x) => rt x | _ => fl) 84 0 [(112, .ref 207), (0, dV), (0, dV)] [] = (bn (f_R_readTold (13 : Int32) (0 : Int32) (9 : Int32)) fun v1 =>
  (if v1 = (-1 : Int32) then
    rt (-1 : Int32)
  else
    bn (f_R_isWord (25 : Int32)) fun v2 =>
    (if v2 = 0 then
      bn (f_R_errs (1 : Int32)) fun v6 =>
      rt v6
    else
      bn (f_R_reads) fun _ =>
      bn (rd 207 17) fun v3 =>
      (if v3 = (3 : Int32) then
        bn (rd 207 18) fun v4 =>
        (if v4 = v1 then
          bn (f_R_errs (2 : Int32)) fun v5 =>
          rt v5
        else
          k_58 v1)
      else
        k_58 v1)))) := rfl
theorem s_R_readStreet_0 {d : Nat} (hcs : AllS L X d (cs_R_readStreet F_R_errs F_R_isWord F_R_readMark F_R_readNumber F_R_readTold F_R_reads)) {o : Option Value × PH} {Q : (Int32) → MI → Prop} (q0 : ∀ v I, Q v I → o = (some (.int v), HH I)) (I : MI) (r : Int32) (I1 : MI) (h : F_R_readStreet I = some (r, I1)) (hq : Q r I1) : At L X (d + 1) 227 0 [(112, .ref 207), (0, dV), (0, dV)] [] I o := by
  refine wf_ok z_R_readStreet hcs ?_ ?_ _ _ _ _ _ ⟨rfl, trivial, trivial, trivial⟩ trivial (unm_refl _ _) ((congrFun (e_s_R_readStreet_0 (L := L) (X := X) F_R_errs F_R_isWord F_R_readMark F_R_readNumber F_R_readTold F_R_reads K_R_readStreet_58) I).trans h)
  · intro pc ls st I2 h1 h2 h3 h
    rcases mC_ok h with ⟨hb, h⟩ | ⟨_, h⟩
    · have e := Nat.eq_of_beq_eq_true hb
      subst e
      obtain ⟨hst, h⟩ := mN_ok h
      subst hst
      obtain ⟨a1, n1, h⟩ := gI_ok h
      obtain ⟨n2, h⟩ := gD_ok h
      refine at_leaf (ls2 := [(112, .ref 207), (0, .int a1), (0, dV)]) h3.1 ⟨Or.inr ⟨_, (h3.2 0 rfl).trans rfl⟩, Or.inr n1, Or.inl ⟨rfl, n2⟩, trivial⟩ ?_
      exact s_R_readStreet_58 hcs a1 q0 _ _ _ h hq
    cases h
  · intro v I2 _ h
    split at h
    · cases h; exact q0 _ _ hq
    · cases h
theorem w_R_readStreet {d : Nat} (hcs : AllS L X d (cs_R_readStreet F_R_errs F_R_isWord F_R_readMark F_R_readNumber F_R_readTold F_R_reads)) : Snd L X (d + 1) 227 1 (W_R_readStreet F_R_readStreet) := by
  refine ⟨_, z_R_readStreet, rfl, fun β args k I r hty hlen h => ?_⟩
  unfold W_R_readStreet at h
  split at h
  · rename_i t0 a0
    obtain ⟨hb0, h⟩ := mB_ok h
    have e0 := Nat.eq_of_beq_eq_true hb0
    have g0 : okB 112 a0 = true := e0 ▸ hty.1
    have e20 := one_112 g0
    subst e20
    obtain ⟨v, I1, h1, h2⟩ := bn_some h
    refine ⟨gf_obj (c := 12) (by decide) g0, rfl, some (0, .int v), I1, trivial, ?_, h2⟩
    exact s_R_readStreet_0 hcs   (Q := fun w I => w = v ∧ I = I1) (fun w I q => by obtain ⟨rfl, rfl⟩ := q; rfl) I v I1 h1 ⟨rfl, rfl⟩
  · cases h
theorem S_R_readStreet {d : Nat} (hd : 6 ≤ d) : Snd L X d 227 1 (W_R_readStreet F_R_readStreet) := by
  obtain ⟨e, rfl⟩ : ∃ e, d = e + 1 := ⟨d - 1, by omega⟩
  exact w_R_readStreet ⟨S_R_errs (by omega), S_R_isWord (by omega), S_R_readMark (by omega), S_R_readNumber (by omega), S_R_readTold (by omega), S_R_reads (by omega), trivial⟩
set_option maxRecDepth 100000 in
theorem z_R_readStreets : pT[226]? = some (q_R_readStreets, 1, 2, 1, 12) := rfl
def W_R_readStreets (F : M Int32) : CSem := fun _ args k => match args with
  | [(t0, .ref a0)] => mB (Nat.beq t0 112) <| bn (F) fun v => k (some (0, .int v))
  | _ => fl
def cs_R_readStreets (f_R_errs : Int32 → M Int32) (f_R_isWord : Int32 → M Int32) (f_R_readStreet : M Int32) : List (Nat × Nat × CSem) := [(215, 2, W_R_errs f_R_errs), (214, 2, W_R_isWord f_R_isWord), (227, 1, W_R_readStreet f_R_readStreet)]
def B_R_readStreets_2 (y : Int32) : M ((Int32) ⊕ ((Unit))) :=
  (if y < (10 : Int32) then
    bn (sr 20 228 ((10 : Int32) + y) (0 : Int32)) fun _ =>
    rt (.inl (y + (1 : Int32)))
  else
    rt (.inr ()))
set_option maxRecDepth 4000 in
theorem e_b_R_readStreets_2 (f_R_errs : Int32 → M Int32) (f_R_isWord : Int32 → M Int32) (f_R_readStreet : M Int32) (y : Int32) : wf (β := (Int32) ⊕ ((Unit))) L X q_R_readStreets 1 (cs_R_readStreets f_R_errs f_R_isWord f_R_readStreet) [1] [2, 24, 26, 64] (fun pc ls st => mC (Nat.beq pc 2) (mN st <| gI ls 1 fun a1 => rt (.inl a1)) (mC (Nat.beq pc 24) (mN st <| gD ls 1 <| rt (.inr ())) (fl))) (fun _ => fl) 52 2 [(112, .ref 207), (0, .int y)] [] = ((if y < (10 : Int32) then
    bn (sr 20 228 ((10 : Int32) + y) (0 : Int32)) fun _ =>
    rt (.inl (y + (1 : Int32)))
  else
    rt (.inr ()))) := rfl
theorem b_R_readStreets_2 {d : Nat} (hcs : AllS L X d (cs_R_readStreets F_R_errs F_R_isWord F_R_readStreet)) {o : Option Value × PH} {Q : ((Int32) ⊕ ((Unit))) → MI → Prop} (qb : ∀ y I, Q (.inl y) I → At L X (d + 1) 226 2 [(112, .ref 207), (0, .int y)] [] I o) (qe24 : ∀ y I, Q (.inr y) I → At L X (d + 1) 226 24 [(112, .ref 207), (0, dV)] [] I o) (y : Int32) (I : MI) (r : (Int32) ⊕ ((Unit))) (I1 : MI) (h : B_R_readStreets_2 y I = some (r, I1)) (hq : Q r I1) : At L X (d + 1) 226 2 [(112, .ref 207), (0, .int y)] [] I o := by
  refine wf_ok z_R_readStreets hcs ?_ ?_ _ _ _ _ _ ⟨rfl, trivial, trivial⟩ trivial (unm_refl _ _) ((congrFun (e_b_R_readStreets_2 (L := L) (X := X) F_R_errs F_R_isWord F_R_readStreet y) I).trans h)
  · intro pc ls st I2 h1 h2 h3 h
    rcases mC_ok h with ⟨hb, h⟩ | ⟨_, h⟩
    · have e := Nat.eq_of_beq_eq_true hb
      subst e
      obtain ⟨hst, h⟩ := mN_ok h
      subst hst
      obtain ⟨a1, n1, h⟩ := gI_ok h
      refine at_leaf (ls2 := [(112, .ref 207), (0, .int a1)]) h3.1 ⟨Or.inr ⟨_, (h3.2 0 rfl).trans rfl⟩, Or.inr n1, trivial⟩ ?_
      cases h; exact qb _ _ hq
    rcases mC_ok h with ⟨hb, h⟩ | ⟨_, h⟩
    · have e := Nat.eq_of_beq_eq_true hb
      subst e
      obtain ⟨hst, h⟩ := mN_ok h
      subst hst
      obtain ⟨n1, h⟩ := gD_ok h
      refine at_leaf (ls2 := [(112, .ref 207), (0, dV)]) h3.1 ⟨Or.inr ⟨_, (h3.2 0 rfl).trans rfl⟩, Or.inl ⟨rfl, n1⟩, trivial⟩ ?_
      cases h; exact qe24 _ _ hq
    cases h
  · intro v I2 _ h
    cases h
def B_R_readStreets_26 (y : Int32) : M ((Int32) ⊕ ((Int32) ⊕ Int32)) :=
  bn (F_R_isWord (13 : Int32)) fun v1 =>
  (if v1 = 0 then
    rt (.inr (.inl y))
  else
    (if y = (16 : Int32) then
      bn (F_R_errs (3 : Int32)) fun v3 =>
      rt (.inr (.inr v3))
    else
      bn (F_R_readStreet) fun v2 =>
      (if v2 = (-1 : Int32) then
        rt (.inr (.inr (-1 : Int32)))
      else
        rt (.inl (y + (1 : Int32))))))
set_option maxRecDepth 4000 in
theorem e_b_R_readStreets_26 (f_R_errs : Int32 → M Int32) (f_R_isWord : Int32 → M Int32) (f_R_readStreet : M Int32) (y : Int32) : wf (β := (Int32) ⊕ ((Int32) ⊕ Int32)) L X q_R_readStreets 1 (cs_R_readStreets f_R_errs f_R_isWord f_R_readStreet) [1] [2, 24, 26, 64] (fun pc ls st => mC (Nat.beq pc 26) (mN st <| gI ls 1 fun a1 => rt (.inl a1)) (mC (Nat.beq pc 64) (mN st <| gI ls 1 fun a1 => rt (.inr (.inl a1))) (fl))) (fun v => match v with | some (_, .int x) => rt (.inr (.inr x)) | _ => fl) 52 26 [(112, .ref 207), (0, .int y)] [] = (bn (f_R_isWord (13 : Int32)) fun v1 =>
  (if v1 = 0 then
    rt (.inr (.inl y))
  else
    (if y = (16 : Int32) then
      bn (f_R_errs (3 : Int32)) fun v3 =>
      rt (.inr (.inr v3))
    else
      bn (f_R_readStreet) fun v2 =>
      (if v2 = (-1 : Int32) then
        rt (.inr (.inr (-1 : Int32)))
      else
        rt (.inl (y + (1 : Int32))))))) := rfl
theorem b_R_readStreets_26 {d : Nat} (hcs : AllS L X d (cs_R_readStreets F_R_errs F_R_isWord F_R_readStreet)) {o : Option Value × PH} {Q : ((Int32) ⊕ ((Int32) ⊕ Int32)) → MI → Prop} (qb : ∀ y I, Q (.inl y) I → At L X (d + 1) 226 26 [(112, .ref 207), (0, .int y)] [] I o) (qe64 : ∀ y I, Q (.inr (.inl y)) I → At L X (d + 1) 226 64 [(112, .ref 207), (0, .int y)] [] I o) (qr : ∀ v I, Q (.inr (.inr v)) I → o = (some (.int v), HH I)) (y : Int32) (I : MI) (r : (Int32) ⊕ ((Int32) ⊕ Int32)) (I1 : MI) (h : B_R_readStreets_26 y I = some (r, I1)) (hq : Q r I1) : At L X (d + 1) 226 26 [(112, .ref 207), (0, .int y)] [] I o := by
  refine wf_ok z_R_readStreets hcs ?_ ?_ _ _ _ _ _ ⟨rfl, trivial, trivial⟩ trivial (unm_refl _ _) ((congrFun (e_b_R_readStreets_26 (L := L) (X := X) F_R_errs F_R_isWord F_R_readStreet y) I).trans h)
  · intro pc ls st I2 h1 h2 h3 h
    rcases mC_ok h with ⟨hb, h⟩ | ⟨_, h⟩
    · have e := Nat.eq_of_beq_eq_true hb
      subst e
      obtain ⟨hst, h⟩ := mN_ok h
      subst hst
      obtain ⟨a1, n1, h⟩ := gI_ok h
      refine at_leaf (ls2 := [(112, .ref 207), (0, .int a1)]) h3.1 ⟨Or.inr ⟨_, (h3.2 0 rfl).trans rfl⟩, Or.inr n1, trivial⟩ ?_
      cases h; exact qb _ _ hq
    rcases mC_ok h with ⟨hb, h⟩ | ⟨_, h⟩
    · have e := Nat.eq_of_beq_eq_true hb
      subst e
      obtain ⟨hst, h⟩ := mN_ok h
      subst hst
      obtain ⟨a1, n1, h⟩ := gI_ok h
      refine at_leaf (ls2 := [(112, .ref 207), (0, .int a1)]) h3.1 ⟨Or.inr ⟨_, (h3.2 0 rfl).trans rfl⟩, Or.inr n1, trivial⟩ ?_
      cases h; exact qe64 _ _ hq
    cases h
  · intro v I2 _ h
    split at h
    · cases h; exact qr _ _ hq
    · cases h
def K_R_readStreets_64 (x1 : Int32) : M (Int32) :=
  bn (rd 207 17) fun v1 =>
  (if v1 = 0 then
    rt x1
  else
    bn (F_R_errs (1 : Int32)) fun v2 =>
    rt v2)
set_option maxRecDepth 4000 in
theorem e_s_R_readStreets_64 (f_R_errs : Int32 → M Int32) (f_R_isWord : Int32 → M Int32) (f_R_readStreet : M Int32) (x1 : Int32) : wf (β := Int32) L X q_R_readStreets 1 (cs_R_readStreets f_R_errs f_R_isWord f_R_readStreet) [] [2, 24, 26, 64] (fun _ _ _ => fl) (fun v => match v with | some (_, .int x) => rt x | _ => fl) 52 64 [(112, .ref 207), (0, .int x1)] [] = (bn (rd 207 17) fun v1 =>
  (if v1 = 0 then
    rt x1
  else
    bn (f_R_errs (1 : Int32)) fun v2 =>
    rt v2)) := rfl
theorem s_R_readStreets_64 {d : Nat} (hcs : AllS L X d (cs_R_readStreets F_R_errs F_R_isWord F_R_readStreet)) (x1 : Int32) {o : Option Value × PH} {Q : (Int32) → MI → Prop} (q0 : ∀ v I, Q v I → o = (some (.int v), HH I)) (I : MI) (r : Int32) (I1 : MI) (h : K_R_readStreets_64 x1 I = some (r, I1)) (hq : Q r I1) : At L X (d + 1) 226 64 [(112, .ref 207), (0, .int x1)] [] I o := by
  refine wf_ok z_R_readStreets hcs ?_ ?_ _ _ _ _ _ ⟨rfl, trivial, trivial⟩ trivial (unm_refl _ _) ((congrFun (e_s_R_readStreets_64 (L := L) (X := X) F_R_errs F_R_isWord F_R_readStreet x1) I).trans h)
  · intro pc ls st I2 h1 h2 h3 h
    cases h
  · intro v I2 _ h
    split at h
    · cases h; exact q0 _ _ hq
    · cases h
def K_R_readStreets_26 (x1 : Int32) : M (Int32) :=
  bn (lp (B_R_readStreets_26) FU x1) fun e => match e with
  | .inl e => K_R_readStreets_64 e
  | .inr e => rt e
theorem s_R_readStreets_26 {d : Nat} (hcs : AllS L X d (cs_R_readStreets F_R_errs F_R_isWord F_R_readStreet)) (x1 : Int32) {o : Option Value × PH} {Q : (Int32) → MI → Prop} (q0 : ∀ v I, Q v I → o = (some (.int v), HH I)) (I : MI) (r : Int32) (I1 : MI) (h : K_R_readStreets_26 x1 I = some (r, I1)) (hq : Q r I1) : At L X (d + 1) 226 26 [(112, .ref 207), (0, .int x1)] [] I o := by
  unfold K_R_readStreets_26 at h
  obtain ⟨e, I2, h1, h2⟩ := bn_some h
  have w0 := fun w => at_lp (body := B_R_readStreets_26) (P := (fun (y : Int32) I => At L X (d + 1) 226 26 [(112, .ref 207), (0, .int y)] [] I o)) (Q := (fun (e : (Int32) ⊕ Int32) I => (match e with | .inl e => K_R_readStreets_64 e | .inr e => rt e : M (Int32)) I = some (r, I1))) w FU x1 I e I2 h1 h2
  refine w0 ?_
  intro y I r2 I3 h hq2
  exact b_R_readStreets_26 hcs (Q := SQ (fun (y : Int32) I => At L X (d + 1) 226 26 [(112, .ref 207), (0, .int y)] [] I o) (fun (e : (Int32) ⊕ Int32) I => (match e with | .inl e => K_R_readStreets_64 e | .inr e => rt e : M (Int32)) I = some (r, I1))) (fun _ _ w => w) (fun y I w => s_R_readStreets_64 hcs y q0 _ _ _ w hq) (fun v I w => by cases w; exact q0 _ _ hq) y I r2 I3 h hq2
def K_R_readStreets_24 : M (Int32) :=
  K_R_readStreets_26 (0 : Int32)
set_option maxRecDepth 4000 in
theorem e_s_R_readStreets_24 (f_R_errs : Int32 → M Int32) (f_R_isWord : Int32 → M Int32) (f_R_readStreet : M Int32) (k_26 : Int32 → M (Int32)) : wf (β := Int32) L X q_R_readStreets 1 (cs_R_readStreets f_R_errs f_R_isWord f_R_readStreet) [1] [2, 24, 26, 64] (fun pc ls st => mC (Nat.beq pc 26) (mN st <| gI ls 1 fun a1 => k_26 a1) (fl)) (fun v => match v with | some (_, .int x) => rt x | _ => fl) 52 24 [(112, .ref 207), (0, dV)] [] = (k_26 (0 : Int32)) := rfl
theorem s_R_readStreets_24 {d : Nat} (hcs : AllS L X d (cs_R_readStreets F_R_errs F_R_isWord F_R_readStreet)) {o : Option Value × PH} {Q : (Int32) → MI → Prop} (q0 : ∀ v I, Q v I → o = (some (.int v), HH I)) (I : MI) (r : Int32) (I1 : MI) (h : K_R_readStreets_24 I = some (r, I1)) (hq : Q r I1) : At L X (d + 1) 226 24 [(112, .ref 207), (0, dV)] [] I o := by
  refine wf_ok z_R_readStreets hcs ?_ ?_ _ _ _ _ _ ⟨rfl, trivial, trivial⟩ trivial (unm_refl _ _) ((congrFun (e_s_R_readStreets_24 (L := L) (X := X) F_R_errs F_R_isWord F_R_readStreet K_R_readStreets_26) I).trans h)
  · intro pc ls st I2 h1 h2 h3 h
    rcases mC_ok h with ⟨hb, h⟩ | ⟨_, h⟩
    · have e := Nat.eq_of_beq_eq_true hb
      subst e
      obtain ⟨hst, h⟩ := mN_ok h
      subst hst
      obtain ⟨a1, n1, h⟩ := gI_ok h
      refine at_leaf (ls2 := [(112, .ref 207), (0, .int a1)]) h3.1 ⟨Or.inr ⟨_, (h3.2 0 rfl).trans rfl⟩, Or.inr n1, trivial⟩ ?_
      exact s_R_readStreets_26 hcs a1 q0 _ _ _ h hq
    cases h
  · intro v I2 _ h
    split at h
    · cases h; exact q0 _ _ hq
    · cases h
def K_R_readStreets_2 (x1 : Int32) : M (Int32) :=
  bn (lp (B_R_readStreets_2) FU x1) fun e => K_R_readStreets_24
theorem s_R_readStreets_2 {d : Nat} (hcs : AllS L X d (cs_R_readStreets F_R_errs F_R_isWord F_R_readStreet)) (x1 : Int32) {o : Option Value × PH} {Q : (Int32) → MI → Prop} (q0 : ∀ v I, Q v I → o = (some (.int v), HH I)) (I : MI) (r : Int32) (I1 : MI) (h : K_R_readStreets_2 x1 I = some (r, I1)) (hq : Q r I1) : At L X (d + 1) 226 2 [(112, .ref 207), (0, .int x1)] [] I o := by
  unfold K_R_readStreets_2 at h
  obtain ⟨e, I2, h1, h2⟩ := bn_some h
  have w0 := fun w => at_lp (body := B_R_readStreets_2) (P := (fun (y : Int32) I => At L X (d + 1) 226 2 [(112, .ref 207), (0, .int y)] [] I o)) (Q := (fun (e : (Unit)) I => (K_R_readStreets_24) I = some (r, I1))) w FU x1 I e I2 h1 h2
  refine w0 ?_
  intro y I r2 I3 h hq2
  exact b_R_readStreets_2 hcs (Q := SQ (fun (y : Int32) I => At L X (d + 1) 226 2 [(112, .ref 207), (0, .int y)] [] I o) (fun (e : (Unit)) I => (K_R_readStreets_24) I = some (r, I1))) (fun _ _ w => w) (fun y I w => s_R_readStreets_24 hcs q0 _ _ _ w hq) y I r2 I3 h hq2
def F_R_readStreets : M (Int32) :=
  K_R_readStreets_2 (0 : Int32)
set_option maxRecDepth 4000 in
theorem e_s_R_readStreets_0 (f_R_errs : Int32 → M Int32) (f_R_isWord : Int32 → M Int32) (f_R_readStreet : M Int32) (k_2 : Int32 → M (Int32)) : wf (β := Int32) L X q_R_readStreets 1 (cs_R_readStreets f_R_errs f_R_isWord f_R_readStreet) [1] [2, 24, 26, 64] (fun pc ls st => mC (Nat.beq pc 2) (mN st <| gI ls 1 fun a1 => k_2 a1) (fl)) (fun v => match v with | some (_, .int x) => rt x | _ => fl) 52 0 [(112, .ref 207), (0, dV)] [] = (k_2 (0 : Int32)) := rfl
theorem s_R_readStreets_0 {d : Nat} (hcs : AllS L X d (cs_R_readStreets F_R_errs F_R_isWord F_R_readStreet)) {o : Option Value × PH} {Q : (Int32) → MI → Prop} (q0 : ∀ v I, Q v I → o = (some (.int v), HH I)) (I : MI) (r : Int32) (I1 : MI) (h : F_R_readStreets I = some (r, I1)) (hq : Q r I1) : At L X (d + 1) 226 0 [(112, .ref 207), (0, dV)] [] I o := by
  refine wf_ok z_R_readStreets hcs ?_ ?_ _ _ _ _ _ ⟨rfl, trivial, trivial⟩ trivial (unm_refl _ _) ((congrFun (e_s_R_readStreets_0 (L := L) (X := X) F_R_errs F_R_isWord F_R_readStreet K_R_readStreets_2) I).trans h)
  · intro pc ls st I2 h1 h2 h3 h
    rcases mC_ok h with ⟨hb, h⟩ | ⟨_, h⟩
    · have e := Nat.eq_of_beq_eq_true hb
      subst e
      obtain ⟨hst, h⟩ := mN_ok h
      subst hst
      obtain ⟨a1, n1, h⟩ := gI_ok h
      refine at_leaf (ls2 := [(112, .ref 207), (0, .int a1)]) h3.1 ⟨Or.inr ⟨_, (h3.2 0 rfl).trans rfl⟩, Or.inr n1, trivial⟩ ?_
      exact s_R_readStreets_2 hcs a1 q0 _ _ _ h hq
    cases h
  · intro v I2 _ h
    split at h
    · cases h; exact q0 _ _ hq
    · cases h
theorem w_R_readStreets {d : Nat} (hcs : AllS L X d (cs_R_readStreets F_R_errs F_R_isWord F_R_readStreet)) : Snd L X (d + 1) 226 1 (W_R_readStreets F_R_readStreets) := by
  refine ⟨_, z_R_readStreets, rfl, fun β args k I r hty hlen h => ?_⟩
  unfold W_R_readStreets at h
  split at h
  · rename_i t0 a0
    obtain ⟨hb0, h⟩ := mB_ok h
    have e0 := Nat.eq_of_beq_eq_true hb0
    have g0 : okB 112 a0 = true := e0 ▸ hty.1
    have e20 := one_112 g0
    subst e20
    obtain ⟨v, I1, h1, h2⟩ := bn_some h
    refine ⟨gf_obj (c := 12) (by decide) g0, rfl, some (0, .int v), I1, trivial, ?_, h2⟩
    exact s_R_readStreets_0 hcs   (Q := fun w I => w = v ∧ I = I1) (fun w I q => by obtain ⟨rfl, rfl⟩ := q; rfl) I v I1 h1 ⟨rfl, rfl⟩
  · cases h
theorem S_R_readStreets {d : Nat} (hd : 7 ≤ d) : Snd L X d 226 1 (W_R_readStreets F_R_readStreets) := by
  obtain ⟨e, rfl⟩ : ∃ e, d = e + 1 := ⟨d - 1, by omega⟩
  exact w_R_readStreets ⟨S_R_errs (by omega), S_R_isWord (by omega), S_R_readStreet (by omega), trivial⟩
set_option maxRecDepth 100000 in
theorem z_R_readsText : pT[206]? = some (q_R_readsText, 2, 2, 1, 12) := rfl
def W_R_readsText (F : Int32 → M Int32) : CSem := fun _ args k => match args with
  | [(t0, .ref a0), (_, .int a1)] => mB (Nat.beq t0 112) <| bn (F a1) fun v => k (some (0, .int v))
  | _ => fl
def cs_R_readsText (f_R_readDiary : M Int32) (f_R_readLaw : M Int32) (f_R_readShares : M Int32) (f_R_readStreets : M Int32) (f_R_reads : M Unit) : List (Nat × Nat × CSem) := [(221, 1, W_R_readDiary f_R_readDiary), (228, 1, W_R_readLaw f_R_readLaw), (213, 1, W_R_readShares f_R_readShares), (226, 1, W_R_readStreets f_R_readStreets), (207, 1, W_R_reads f_R_reads)]
def F_R_readsText (x1 : Int32) : M (Int32) :=
  bn (wr 207 27 (0 : Int32)) fun _ =>
  bn (F_R_reads) fun _ =>
  (if x1 = (1 : Int32) then
    bn (F_R_readShares) fun v4 =>
    rt v4
  else
    (if x1 = (2 : Int32) then
      bn (F_R_readDiary) fun v3 =>
      rt v3
    else
      (if x1 = (3 : Int32) then
        bn (F_R_readStreets) fun v2 =>
        rt v2
      else
        bn (F_R_readLaw) fun v1 =>
        rt v1)))
set_option maxRecDepth 4000 in
theorem e_s_R_readsText_0 (f_R_readDiary : M Int32) (f_R_readLaw : M Int32) (f_R_readShares : M Int32) (f_R_readStreets : M Int32) (f_R_reads : M Unit) (x1 : Int32) : wf (β := Int32) L X q_R_readsText 1 (cs_R_readsText f_R_readDiary f_R_readLaw f_R_readShares f_R_readStreets f_R_reads) [] [] (fun _ _ _ => fl) (fun v => match v with | some (_, .int x) => rt x | _ => fl) 31 0 [(112, .ref 207), (0, .int x1)] [] = (bn (wr 207 27 (0 : Int32)) fun _ =>
  bn (f_R_reads) fun _ =>
  (if x1 = (1 : Int32) then
    bn (f_R_readShares) fun v4 =>
    rt v4
  else
    (if x1 = (2 : Int32) then
      bn (f_R_readDiary) fun v3 =>
      rt v3
    else
      (if x1 = (3 : Int32) then
        bn (f_R_readStreets) fun v2 =>
        rt v2
      else
        bn (f_R_readLaw) fun v1 =>
        rt v1)))) := rfl
theorem s_R_readsText_0 {d : Nat} (hcs : AllS L X d (cs_R_readsText F_R_readDiary F_R_readLaw F_R_readShares F_R_readStreets F_R_reads)) (x1 : Int32) {o : Option Value × PH} {Q : (Int32) → MI → Prop} (q0 : ∀ v I, Q v I → o = (some (.int v), HH I)) (I : MI) (r : Int32) (I1 : MI) (h : F_R_readsText x1 I = some (r, I1)) (hq : Q r I1) : At L X (d + 1) 206 0 [(112, .ref 207), (0, .int x1)] [] I o := by
  refine wf_ok z_R_readsText hcs ?_ ?_ _ _ _ _ _ ⟨rfl, trivial, trivial⟩ trivial (unm_refl _ _) ((congrFun (e_s_R_readsText_0 (L := L) (X := X) F_R_readDiary F_R_readLaw F_R_readShares F_R_readStreets F_R_reads x1) I).trans h)
  · intro pc ls st I2 h1 h2 h3 h
    cases h
  · intro v I2 _ h
    split at h
    · cases h; exact q0 _ _ hq
    · cases h
theorem w_R_readsText {d : Nat} (hcs : AllS L X d (cs_R_readsText F_R_readDiary F_R_readLaw F_R_readShares F_R_readStreets F_R_reads)) : Snd L X (d + 1) 206 2 (W_R_readsText F_R_readsText) := by
  refine ⟨_, z_R_readsText, rfl, fun β args k I r hty hlen h => ?_⟩
  unfold W_R_readsText at h
  split at h
  · rename_i t0 a0 u1 a1
    obtain ⟨hb0, h⟩ := mB_ok h
    have e0 := Nat.eq_of_beq_eq_true hb0
    have g0 : okB 112 a0 = true := e0 ▸ hty.1
    have e20 := one_112 g0
    subst e20
    obtain ⟨v, I1, h1, h2⟩ := bn_some h
    refine ⟨gf_obj (c := 12) (by decide) g0, rfl, some (0, .int v), I1, trivial, ?_, h2⟩
    exact s_R_readsText_0 hcs a1  (Q := fun w I => w = v ∧ I = I1) (fun w I q => by obtain ⟨rfl, rfl⟩ := q; rfl) I v I1 h1 ⟨rfl, rfl⟩
  · cases h
theorem S_R_readsText {d : Nat} (hd : 10 ≤ d) : Snd L X d 206 2 (W_R_readsText F_R_readsText) := by
  obtain ⟨e, rfl⟩ : ∃ e, d = e + 1 := ⟨d - 1, by omega⟩
  exact w_R_readsText ⟨S_R_readDiary (by omega), S_R_readLaw (by omega), S_R_readShares (by omega), S_R_readStreets (by omega), S_R_reads (by omega), trivial⟩
set_option maxRecDepth 100000 in
theorem z_R_takesLaw : pT[239]? = some (q_R_takesLaw, 2, 3, 0, 12) := rfl
def W_R_takesLaw (F : Int32 → M Unit) : CSem := fun _ args k => match args with
  | [(t0, .ref a0), (_, .int a1)] => mB (Nat.beq t0 112) <| bn (F a1) fun _ => k none
  | _ => fl
def cs_R_takesLaw : List (Nat × Nat × CSem) := []
def B_R_takesLaw_2 (x1 : Int32) (y : Int32) : M ((Int32) ⊕ ((Unit))) :=
  (if y < x1 then
    bn (rd 207 27) fun v1 =>
    bn (ld 48 219 ((32 : Int32) + y)) fun v2 =>
    bn (sr 48 219 (((16 : Int32) * v1) + y) v2) fun _ =>
    bn (rd 207 27) fun v3 =>
    bn (ld 48 220 ((32 : Int32) + y)) fun v4 =>
    bn (sr 48 220 (((16 : Int32) * v3) + y) v4) fun _ =>
    bn (rd 207 27) fun v5 =>
    bn (ld 48 221 ((32 : Int32) + y)) fun v6 =>
    bn (sr 48 221 (((16 : Int32) * v5) + y) v6) fun _ =>
    bn (rd 207 27) fun v7 =>
    bn (ld 48 222 ((32 : Int32) + y)) fun v8 =>
    bn (sr 48 222 (((16 : Int32) * v7) + y) v8) fun _ =>
    rt (.inl (y + (1 : Int32)))
  else
    rt (.inr ()))
set_option maxRecDepth 4000 in
theorem e_b_R_takesLaw_2 (x1 : Int32) (y : Int32) : wf (β := (Int32) ⊕ ((Unit))) L X q_R_takesLaw 0 cs_R_takesLaw [2] [2, 105, 107] (fun pc ls st => mC (Nat.beq pc 2) (mN st <| gI ls 2 fun a2 => rt (.inl a2)) (mC (Nat.beq pc 105) (mN st <| gD ls 2 <| rt (.inr ())) (fl))) (fun _ => fl) 117 2 [(112, .ref 207), (0, .int x1), (0, .int y)] [] = ((if y < x1 then
    bn (rd 207 27) fun v1 =>
    bn (ld 48 219 ((32 : Int32) + y)) fun v2 =>
    bn (sr 48 219 (((16 : Int32) * v1) + y) v2) fun _ =>
    bn (rd 207 27) fun v3 =>
    bn (ld 48 220 ((32 : Int32) + y)) fun v4 =>
    bn (sr 48 220 (((16 : Int32) * v3) + y) v4) fun _ =>
    bn (rd 207 27) fun v5 =>
    bn (ld 48 221 ((32 : Int32) + y)) fun v6 =>
    bn (sr 48 221 (((16 : Int32) * v5) + y) v6) fun _ =>
    bn (rd 207 27) fun v7 =>
    bn (ld 48 222 ((32 : Int32) + y)) fun v8 =>
    bn (sr 48 222 (((16 : Int32) * v7) + y) v8) fun _ =>
    rt (.inl (y + (1 : Int32)))
  else
    rt (.inr ()))) := rfl
theorem b_R_takesLaw_2 {d : Nat} (hcs : AllS L X d cs_R_takesLaw) (x1 : Int32) {o : Option Value × PH} {Q : ((Int32) ⊕ ((Unit))) → MI → Prop} (qb : ∀ y I, Q (.inl y) I → At L X (d + 1) 239 2 [(112, .ref 207), (0, .int x1), (0, .int y)] [] I o) (qe105 : ∀ y I, Q (.inr y) I → At L X (d + 1) 239 105 [(112, .ref 207), (0, .int x1), (0, dV)] [] I o) (y : Int32) (I : MI) (r : (Int32) ⊕ ((Unit))) (I1 : MI) (h : B_R_takesLaw_2 x1 y I = some (r, I1)) (hq : Q r I1) : At L X (d + 1) 239 2 [(112, .ref 207), (0, .int x1), (0, .int y)] [] I o := by
  refine wf_ok z_R_takesLaw hcs ?_ ?_ _ _ _ _ _ ⟨rfl, trivial, trivial, trivial⟩ trivial (unm_refl _ _) ((congrFun (e_b_R_takesLaw_2 (L := L) (X := X) x1 y) I).trans h)
  · intro pc ls st I2 h1 h2 h3 h
    rcases mC_ok h with ⟨hb, h⟩ | ⟨_, h⟩
    · have e := Nat.eq_of_beq_eq_true hb
      subst e
      obtain ⟨hst, h⟩ := mN_ok h
      subst hst
      obtain ⟨a2, n2, h⟩ := gI_ok h
      refine at_leaf (ls2 := [(112, .ref 207), (0, .int x1), (0, .int a2)]) h3.1 ⟨Or.inr ⟨_, (h3.2 0 rfl).trans rfl⟩, Or.inr ⟨_, (h3.2 1 rfl).trans rfl⟩, Or.inr n2, trivial⟩ ?_
      cases h; exact qb _ _ hq
    rcases mC_ok h with ⟨hb, h⟩ | ⟨_, h⟩
    · have e := Nat.eq_of_beq_eq_true hb
      subst e
      obtain ⟨hst, h⟩ := mN_ok h
      subst hst
      obtain ⟨n2, h⟩ := gD_ok h
      refine at_leaf (ls2 := [(112, .ref 207), (0, .int x1), (0, dV)]) h3.1 ⟨Or.inr ⟨_, (h3.2 0 rfl).trans rfl⟩, Or.inr ⟨_, (h3.2 1 rfl).trans rfl⟩, Or.inl ⟨rfl, n2⟩, trivial⟩ ?_
      cases h; exact qe105 _ _ hq
    cases h
  · intro v I2 _ h
    cases h
def B_R_takesLaw_107 (x1 : Int32) (y : Int32) : M ((Int32) ⊕ (Unit)) :=
  bn (rd 207 28) fun v1 =>
  (if y < v1 then
    bn (rd 207 27) fun v3 =>
    bn (ld 1200 223 ((800 : Int32) + y)) fun v4 =>
    bn (sr 1200 223 (((400 : Int32) * v3) + y) v4) fun _ =>
    bn (rd 207 27) fun v5 =>
    bn (ld 1200 224 ((800 : Int32) + y)) fun v6 =>
    bn (sr 1200 224 (((400 : Int32) * v5) + y) v6) fun _ =>
    rt (.inl (y + (1 : Int32)))
  else
    bn (rd 207 27) fun v2 =>
    bn (sr 2 218 v2 x1) fun _ =>
    rt (.inr ()))
set_option maxRecDepth 4000 in
theorem e_b_R_takesLaw_107 (x1 : Int32) (y : Int32) : wf (β := (Int32) ⊕ (Unit)) L X q_R_takesLaw 0 cs_R_takesLaw [2] [2, 105, 107] (fun pc ls st => mC (Nat.beq pc 107) (mN st <| gI ls 2 fun a2 => rt (.inl a2)) (fl)) (fun v => match v with | none => rt (.inr ()) | _ => fl) 117 107 [(112, .ref 207), (0, .int x1), (0, .int y)] [] = (bn (rd 207 28) fun v1 =>
  (if y < v1 then
    bn (rd 207 27) fun v3 =>
    bn (ld 1200 223 ((800 : Int32) + y)) fun v4 =>
    bn (sr 1200 223 (((400 : Int32) * v3) + y) v4) fun _ =>
    bn (rd 207 27) fun v5 =>
    bn (ld 1200 224 ((800 : Int32) + y)) fun v6 =>
    bn (sr 1200 224 (((400 : Int32) * v5) + y) v6) fun _ =>
    rt (.inl (y + (1 : Int32)))
  else
    bn (rd 207 27) fun v2 =>
    bn (sr 2 218 v2 x1) fun _ =>
    rt (.inr ()))) := rfl
theorem b_R_takesLaw_107 {d : Nat} (hcs : AllS L X d cs_R_takesLaw) (x1 : Int32) {o : Option Value × PH} {Q : ((Int32) ⊕ (Unit)) → MI → Prop} (qb : ∀ y I, Q (.inl y) I → At L X (d + 1) 239 107 [(112, .ref 207), (0, .int x1), (0, .int y)] [] I o) (qr : ∀ v I, Q (.inr v) I → o = (none, HH I)) (y : Int32) (I : MI) (r : (Int32) ⊕ (Unit)) (I1 : MI) (h : B_R_takesLaw_107 x1 y I = some (r, I1)) (hq : Q r I1) : At L X (d + 1) 239 107 [(112, .ref 207), (0, .int x1), (0, .int y)] [] I o := by
  refine wf_ok z_R_takesLaw hcs ?_ ?_ _ _ _ _ _ ⟨rfl, trivial, trivial, trivial⟩ trivial (unm_refl _ _) ((congrFun (e_b_R_takesLaw_107 (L := L) (X := X) x1 y) I).trans h)
  · intro pc ls st I2 h1 h2 h3 h
    rcases mC_ok h with ⟨hb, h⟩ | ⟨_, h⟩
    · have e := Nat.eq_of_beq_eq_true hb
      subst e
      obtain ⟨hst, h⟩ := mN_ok h
      subst hst
      obtain ⟨a2, n2, h⟩ := gI_ok h
      refine at_leaf (ls2 := [(112, .ref 207), (0, .int x1), (0, .int a2)]) h3.1 ⟨Or.inr ⟨_, (h3.2 0 rfl).trans rfl⟩, Or.inr ⟨_, (h3.2 1 rfl).trans rfl⟩, Or.inr n2, trivial⟩ ?_
      cases h; exact qb _ _ hq
    cases h
  · intro v I2 _ h
    split at h
    · cases h; exact qr _ _ hq
    · cases h
def K_R_takesLaw_107 (x1 : Int32) (x2 : Int32) : M (Unit) :=
  lp (B_R_takesLaw_107 x1) FU x2
theorem s_R_takesLaw_107 {d : Nat} (hcs : AllS L X d cs_R_takesLaw) (x1 : Int32) (x2 : Int32) {o : Option Value × PH} {Q : (Unit) → MI → Prop} (q0 : ∀ v I, Q v I → o = (none, HH I)) (I : MI) (r : Unit) (I1 : MI) (h : K_R_takesLaw_107 x1 x2 I = some (r, I1)) (hq : Q r I1) : At L X (d + 1) 239 107 [(112, .ref 207), (0, .int x1), (0, .int x2)] [] I o := by
  unfold K_R_takesLaw_107 at h
  have w0 := fun w => at_lp (body := B_R_takesLaw_107 x1) (P := (fun (y : Int32) I => At L X (d + 1) 239 107 [(112, .ref 207), (0, .int x1), (0, .int y)] [] I o)) (Q := (fun (e : Unit) I => Q e I)) w FU x2 I r I1 h hq
  refine w0 ?_
  intro y I r I1 h hq
  exact b_R_takesLaw_107 hcs x1 (Q := SQ (fun (y : Int32) I => At L X (d + 1) 239 107 [(112, .ref 207), (0, .int x1), (0, .int y)] [] I o) (fun (e : Unit) I => Q e I)) (fun _ _ w => w) q0 y I r I1 h hq
def K_R_takesLaw_105 (x1 : Int32) : M (Unit) :=
  K_R_takesLaw_107 x1 (0 : Int32)
set_option maxRecDepth 4000 in
theorem e_s_R_takesLaw_105 (k_107 : Int32 → Int32 → M (Unit)) (x1 : Int32) : wf (β := Unit) L X q_R_takesLaw 0 cs_R_takesLaw [2] [2, 105, 107] (fun pc ls st => mC (Nat.beq pc 107) (mN st <| gI ls 2 fun a2 => k_107 x1 a2) (fl)) (fun v => match v with | none => rt () | _ => fl) 117 105 [(112, .ref 207), (0, .int x1), (0, dV)] [] = (k_107 x1 (0 : Int32)) := rfl
theorem s_R_takesLaw_105 {d : Nat} (hcs : AllS L X d cs_R_takesLaw) (x1 : Int32) {o : Option Value × PH} {Q : (Unit) → MI → Prop} (q0 : ∀ v I, Q v I → o = (none, HH I)) (I : MI) (r : Unit) (I1 : MI) (h : K_R_takesLaw_105 x1 I = some (r, I1)) (hq : Q r I1) : At L X (d + 1) 239 105 [(112, .ref 207), (0, .int x1), (0, dV)] [] I o := by
  refine wf_ok z_R_takesLaw hcs ?_ ?_ _ _ _ _ _ ⟨rfl, trivial, trivial, trivial⟩ trivial (unm_refl _ _) ((congrFun (e_s_R_takesLaw_105 (L := L) (X := X) K_R_takesLaw_107 x1) I).trans h)
  · intro pc ls st I2 h1 h2 h3 h
    rcases mC_ok h with ⟨hb, h⟩ | ⟨_, h⟩
    · have e := Nat.eq_of_beq_eq_true hb
      subst e
      obtain ⟨hst, h⟩ := mN_ok h
      subst hst
      obtain ⟨a2, n2, h⟩ := gI_ok h
      refine at_leaf (ls2 := [(112, .ref 207), (0, .int x1), (0, .int a2)]) h3.1 ⟨Or.inr ⟨_, (h3.2 0 rfl).trans rfl⟩, Or.inr ⟨_, (h3.2 1 rfl).trans rfl⟩, Or.inr n2, trivial⟩ ?_
      exact s_R_takesLaw_107 hcs x1 a2 q0 _ _ _ h hq
    cases h
  · intro v I2 _ h
    split at h
    · cases h; exact q0 _ _ hq
    · cases h
def K_R_takesLaw_2 (x1 : Int32) (x2 : Int32) : M (Unit) :=
  bn (lp (B_R_takesLaw_2 x1) FU x2) fun e => K_R_takesLaw_105 x1
theorem s_R_takesLaw_2 {d : Nat} (hcs : AllS L X d cs_R_takesLaw) (x1 : Int32) (x2 : Int32) {o : Option Value × PH} {Q : (Unit) → MI → Prop} (q0 : ∀ v I, Q v I → o = (none, HH I)) (I : MI) (r : Unit) (I1 : MI) (h : K_R_takesLaw_2 x1 x2 I = some (r, I1)) (hq : Q r I1) : At L X (d + 1) 239 2 [(112, .ref 207), (0, .int x1), (0, .int x2)] [] I o := by
  unfold K_R_takesLaw_2 at h
  obtain ⟨e, I2, h1, h2⟩ := bn_some h
  have w0 := fun w => at_lp (body := B_R_takesLaw_2 x1) (P := (fun (y : Int32) I => At L X (d + 1) 239 2 [(112, .ref 207), (0, .int x1), (0, .int y)] [] I o)) (Q := (fun (e : (Unit)) I => (K_R_takesLaw_105 x1) I = some (r, I1))) w FU x2 I e I2 h1 h2
  refine w0 ?_
  intro y I r2 I3 h hq2
  exact b_R_takesLaw_2 hcs x1 (Q := SQ (fun (y : Int32) I => At L X (d + 1) 239 2 [(112, .ref 207), (0, .int x1), (0, .int y)] [] I o) (fun (e : (Unit)) I => (K_R_takesLaw_105 x1) I = some (r, I1))) (fun _ _ w => w) (fun y I w => s_R_takesLaw_105 hcs x1 q0 _ _ _ w hq) y I r2 I3 h hq2
def F_R_takesLaw (x1 : Int32) : M (Unit) :=
  K_R_takesLaw_2 x1 (0 : Int32)
set_option maxRecDepth 4000 in
theorem e_s_R_takesLaw_0 (k_2 : Int32 → Int32 → M (Unit)) (x1 : Int32) : wf (β := Unit) L X q_R_takesLaw 0 cs_R_takesLaw [2] [2, 105, 107] (fun pc ls st => mC (Nat.beq pc 2) (mN st <| gI ls 2 fun a2 => k_2 x1 a2) (fl)) (fun v => match v with | none => rt () | _ => fl) 117 0 [(112, .ref 207), (0, .int x1), (0, dV)] [] = (k_2 x1 (0 : Int32)) := rfl
theorem s_R_takesLaw_0 {d : Nat} (hcs : AllS L X d cs_R_takesLaw) (x1 : Int32) {o : Option Value × PH} {Q : (Unit) → MI → Prop} (q0 : ∀ v I, Q v I → o = (none, HH I)) (I : MI) (r : Unit) (I1 : MI) (h : F_R_takesLaw x1 I = some (r, I1)) (hq : Q r I1) : At L X (d + 1) 239 0 [(112, .ref 207), (0, .int x1), (0, dV)] [] I o := by
  refine wf_ok z_R_takesLaw hcs ?_ ?_ _ _ _ _ _ ⟨rfl, trivial, trivial, trivial⟩ trivial (unm_refl _ _) ((congrFun (e_s_R_takesLaw_0 (L := L) (X := X) K_R_takesLaw_2 x1) I).trans h)
  · intro pc ls st I2 h1 h2 h3 h
    rcases mC_ok h with ⟨hb, h⟩ | ⟨_, h⟩
    · have e := Nat.eq_of_beq_eq_true hb
      subst e
      obtain ⟨hst, h⟩ := mN_ok h
      subst hst
      obtain ⟨a2, n2, h⟩ := gI_ok h
      refine at_leaf (ls2 := [(112, .ref 207), (0, .int x1), (0, .int a2)]) h3.1 ⟨Or.inr ⟨_, (h3.2 0 rfl).trans rfl⟩, Or.inr ⟨_, (h3.2 1 rfl).trans rfl⟩, Or.inr n2, trivial⟩ ?_
      exact s_R_takesLaw_2 hcs x1 a2 q0 _ _ _ h hq
    cases h
  · intro v I2 _ h
    split at h
    · cases h; exact q0 _ _ hq
    · cases h
theorem w_R_takesLaw {d : Nat} (hcs : AllS L X d cs_R_takesLaw) : Snd L X (d + 1) 239 2 (W_R_takesLaw F_R_takesLaw) := by
  refine ⟨_, z_R_takesLaw, rfl, fun β args k I r hty hlen h => ?_⟩
  unfold W_R_takesLaw at h
  split at h
  · rename_i t0 a0 u1 a1
    obtain ⟨hb0, h⟩ := mB_ok h
    have e0 := Nat.eq_of_beq_eq_true hb0
    have g0 : okB 112 a0 = true := e0 ▸ hty.1
    have e20 := one_112 g0
    subst e20
    obtain ⟨v, I1, h1, h2⟩ := bn_some h
    refine ⟨gf_obj (c := 12) (by decide) g0, rfl, none, I1, trivial, ?_, h2⟩
    exact s_R_takesLaw_0 hcs a1  (Q := fun w I => w = v ∧ I = I1) (fun w I q => by obtain ⟨rfl, rfl⟩ := q; rfl) I v I1 h1 ⟨rfl, rfl⟩
  · cases h
theorem S_R_takesLaw {d : Nat} (hd : 1 ≤ d) : Snd L X d 239 2 (W_R_takesLaw F_R_takesLaw) := by
  obtain ⟨e, rfl⟩ : ∃ e, d = e + 1 := ⟨d - 1, by omega⟩
  exact w_R_takesLaw trivial
set_option maxRecDepth 100000 in
theorem z_R_takesOther : pT[240]? = some (q_R_takesOther, 3, 4, 0, 12) := rfl
def W_R_takesOther (F : Int32 → Int32 → M Unit) : CSem := fun _ args k => match args with
  | [(t0, .ref a0), (_, .int a1), (_, .int a2)] => mB (Nat.beq t0 112) <| bn (F a1 a2) fun _ => k none
  | _ => fl
def cs_R_takesOther : List (Nat × Nat × CSem) := []
def B_R_takesOther_7 (x2 : Int32) (y : Int32) : M ((Int32) ⊕ (Unit)) :=
  (if y < (10 : Int32) then
    bn (ld 20 228 ((10 : Int32) + y)) fun v1 =>
    bn (sr 20 228 y v1) fun _ =>
    rt (.inl (y + (1 : Int32)))
  else
    bn (wr 207 40 x2) fun _ =>
    rt (.inr ()))
set_option maxRecDepth 4000 in
theorem e_b_R_takesOther_7 (x2 : Int32) (y : Int32) : wf (β := (Int32) ⊕ (Unit)) L X q_R_takesOther 0 cs_R_takesOther [3] [7, 47, 85] (fun pc ls st => mC (Nat.beq pc 7) (mN st <| gD ls 1 <| gI ls 3 fun a3 => rt (.inl a3)) (fl)) (fun v => match v with | none => rt (.inr ()) | _ => fl) 81 7 [(112, .ref 207), (0, dV), (0, .int x2), (0, .int y)] [] = ((if y < (10 : Int32) then
    bn (ld 20 228 ((10 : Int32) + y)) fun v1 =>
    bn (sr 20 228 y v1) fun _ =>
    rt (.inl (y + (1 : Int32)))
  else
    bn (wr 207 40 x2) fun _ =>
    rt (.inr ()))) := rfl
theorem b_R_takesOther_7 {d : Nat} (hcs : AllS L X d cs_R_takesOther) (x2 : Int32) {o : Option Value × PH} {Q : ((Int32) ⊕ (Unit)) → MI → Prop} (qb : ∀ y I, Q (.inl y) I → At L X (d + 1) 240 7 [(112, .ref 207), (0, dV), (0, .int x2), (0, .int y)] [] I o) (qr : ∀ v I, Q (.inr v) I → o = (none, HH I)) (y : Int32) (I : MI) (r : (Int32) ⊕ (Unit)) (I1 : MI) (h : B_R_takesOther_7 x2 y I = some (r, I1)) (hq : Q r I1) : At L X (d + 1) 240 7 [(112, .ref 207), (0, dV), (0, .int x2), (0, .int y)] [] I o := by
  refine wf_ok z_R_takesOther hcs ?_ ?_ _ _ _ _ _ ⟨rfl, trivial, trivial, trivial, trivial⟩ trivial (unm_refl _ _) ((congrFun (e_b_R_takesOther_7 (L := L) (X := X) x2 y) I).trans h)
  · intro pc ls st I2 h1 h2 h3 h
    rcases mC_ok h with ⟨hb, h⟩ | ⟨_, h⟩
    · have e := Nat.eq_of_beq_eq_true hb
      subst e
      obtain ⟨hst, h⟩ := mN_ok h
      subst hst
      obtain ⟨n1, h⟩ := gD_ok h
      obtain ⟨a3, n3, h⟩ := gI_ok h
      refine at_leaf (ls2 := [(112, .ref 207), (0, dV), (0, .int x2), (0, .int a3)]) h3.1 ⟨Or.inr ⟨_, (h3.2 0 rfl).trans rfl⟩, Or.inl ⟨rfl, n1⟩, Or.inr ⟨_, (h3.2 2 rfl).trans rfl⟩, Or.inr n3, trivial⟩ ?_
      cases h; exact qb _ _ hq
    cases h
  · intro v I2 _ h
    split at h
    · cases h; exact qr _ _ hq
    · cases h
def K_R_takesOther_7 (x2 : Int32) (x3 : Int32) : M (Unit) :=
  lp (B_R_takesOther_7 x2) FU x3
theorem s_R_takesOther_7 {d : Nat} (hcs : AllS L X d cs_R_takesOther) (x2 : Int32) (x3 : Int32) {o : Option Value × PH} {Q : (Unit) → MI → Prop} (q0 : ∀ v I, Q v I → o = (none, HH I)) (I : MI) (r : Unit) (I1 : MI) (h : K_R_takesOther_7 x2 x3 I = some (r, I1)) (hq : Q r I1) : At L X (d + 1) 240 7 [(112, .ref 207), (0, dV), (0, .int x2), (0, .int x3)] [] I o := by
  unfold K_R_takesOther_7 at h
  have w0 := fun w => at_lp (body := B_R_takesOther_7 x2) (P := (fun (y : Int32) I => At L X (d + 1) 240 7 [(112, .ref 207), (0, dV), (0, .int x2), (0, .int y)] [] I o)) (Q := (fun (e : Unit) I => Q e I)) w FU x3 I r I1 h hq
  refine w0 ?_
  intro y I r I1 h hq
  exact b_R_takesOther_7 hcs x2 (Q := SQ (fun (y : Int32) I => At L X (d + 1) 240 7 [(112, .ref 207), (0, dV), (0, .int x2), (0, .int y)] [] I o) (fun (e : Unit) I => Q e I)) (fun _ _ w => w) q0 y I r I1 h hq
def B_R_takesOther_47 (x2 : Int32) (y : Int32) : M ((Int32) ⊕ (Unit)) :=
  (if y < ((4 : Int32) * x2) then
    bn (ld 128 226 ((64 : Int32) + y)) fun v1 =>
    bn (sr 128 226 y v1) fun _ =>
    rt (.inl (y + (1 : Int32)))
  else
    bn (wr 207 36 x2) fun _ =>
    bn (wr 207 3 (0 : Int32)) fun _ =>
    rt (.inr ()))
set_option maxRecDepth 4000 in
theorem e_b_R_takesOther_47 (x2 : Int32) (y : Int32) : wf (β := (Int32) ⊕ (Unit)) L X q_R_takesOther 0 cs_R_takesOther [3] [7, 47, 85] (fun pc ls st => mC (Nat.beq pc 47) (mN st <| gD ls 1 <| gI ls 3 fun a3 => rt (.inl a3)) (fl)) (fun v => match v with | none => rt (.inr ()) | _ => fl) 81 47 [(112, .ref 207), (0, dV), (0, .int x2), (0, .int y)] [] = ((if y < ((4 : Int32) * x2) then
    bn (ld 128 226 ((64 : Int32) + y)) fun v1 =>
    bn (sr 128 226 y v1) fun _ =>
    rt (.inl (y + (1 : Int32)))
  else
    bn (wr 207 36 x2) fun _ =>
    bn (wr 207 3 (0 : Int32)) fun _ =>
    rt (.inr ()))) := rfl
theorem b_R_takesOther_47 {d : Nat} (hcs : AllS L X d cs_R_takesOther) (x2 : Int32) {o : Option Value × PH} {Q : ((Int32) ⊕ (Unit)) → MI → Prop} (qb : ∀ y I, Q (.inl y) I → At L X (d + 1) 240 47 [(112, .ref 207), (0, dV), (0, .int x2), (0, .int y)] [] I o) (qr : ∀ v I, Q (.inr v) I → o = (none, HH I)) (y : Int32) (I : MI) (r : (Int32) ⊕ (Unit)) (I1 : MI) (h : B_R_takesOther_47 x2 y I = some (r, I1)) (hq : Q r I1) : At L X (d + 1) 240 47 [(112, .ref 207), (0, dV), (0, .int x2), (0, .int y)] [] I o := by
  refine wf_ok z_R_takesOther hcs ?_ ?_ _ _ _ _ _ ⟨rfl, trivial, trivial, trivial, trivial⟩ trivial (unm_refl _ _) ((congrFun (e_b_R_takesOther_47 (L := L) (X := X) x2 y) I).trans h)
  · intro pc ls st I2 h1 h2 h3 h
    rcases mC_ok h with ⟨hb, h⟩ | ⟨_, h⟩
    · have e := Nat.eq_of_beq_eq_true hb
      subst e
      obtain ⟨hst, h⟩ := mN_ok h
      subst hst
      obtain ⟨n1, h⟩ := gD_ok h
      obtain ⟨a3, n3, h⟩ := gI_ok h
      refine at_leaf (ls2 := [(112, .ref 207), (0, dV), (0, .int x2), (0, .int a3)]) h3.1 ⟨Or.inr ⟨_, (h3.2 0 rfl).trans rfl⟩, Or.inl ⟨rfl, n1⟩, Or.inr ⟨_, (h3.2 2 rfl).trans rfl⟩, Or.inr n3, trivial⟩ ?_
      cases h; exact qb _ _ hq
    cases h
  · intro v I2 _ h
    split at h
    · cases h; exact qr _ _ hq
    · cases h
def K_R_takesOther_47 (x2 : Int32) (x3 : Int32) : M (Unit) :=
  lp (B_R_takesOther_47 x2) FU x3
theorem s_R_takesOther_47 {d : Nat} (hcs : AllS L X d cs_R_takesOther) (x2 : Int32) (x3 : Int32) {o : Option Value × PH} {Q : (Unit) → MI → Prop} (q0 : ∀ v I, Q v I → o = (none, HH I)) (I : MI) (r : Unit) (I1 : MI) (h : K_R_takesOther_47 x2 x3 I = some (r, I1)) (hq : Q r I1) : At L X (d + 1) 240 47 [(112, .ref 207), (0, dV), (0, .int x2), (0, .int x3)] [] I o := by
  unfold K_R_takesOther_47 at h
  have w0 := fun w => at_lp (body := B_R_takesOther_47 x2) (P := (fun (y : Int32) I => At L X (d + 1) 240 47 [(112, .ref 207), (0, dV), (0, .int x2), (0, .int y)] [] I o)) (Q := (fun (e : Unit) I => Q e I)) w FU x3 I r I1 h hq
  refine w0 ?_
  intro y I r I1 h hq
  exact b_R_takesOther_47 hcs x2 (Q := SQ (fun (y : Int32) I => At L X (d + 1) 240 47 [(112, .ref 207), (0, dV), (0, .int x2), (0, .int y)] [] I o) (fun (e : Unit) I => Q e I)) (fun _ _ w => w) q0 y I r I1 h hq
def B_R_takesOther_85 (x2 : Int32) (y : Int32) : M ((Int32) ⊕ (Unit)) :=
  (if y < ((5 : Int32) * x2) then
    bn (ld 160 227 ((80 : Int32) + y)) fun v1 =>
    bn (sr 160 227 y v1) fun _ =>
    rt (.inl (y + (1 : Int32)))
  else
    bn (wr 207 38 x2) fun _ =>
    bn (wr 207 3 (0 : Int32)) fun _ =>
    rt (.inr ()))
set_option maxRecDepth 4000 in
theorem e_b_R_takesOther_85 (x2 : Int32) (y : Int32) : wf (β := (Int32) ⊕ (Unit)) L X q_R_takesOther 0 cs_R_takesOther [3] [7, 47, 85] (fun pc ls st => mC (Nat.beq pc 85) (mN st <| gD ls 1 <| gI ls 3 fun a3 => rt (.inl a3)) (fl)) (fun v => match v with | none => rt (.inr ()) | _ => fl) 81 85 [(112, .ref 207), (0, dV), (0, .int x2), (0, .int y)] [] = ((if y < ((5 : Int32) * x2) then
    bn (ld 160 227 ((80 : Int32) + y)) fun v1 =>
    bn (sr 160 227 y v1) fun _ =>
    rt (.inl (y + (1 : Int32)))
  else
    bn (wr 207 38 x2) fun _ =>
    bn (wr 207 3 (0 : Int32)) fun _ =>
    rt (.inr ()))) := rfl
theorem b_R_takesOther_85 {d : Nat} (hcs : AllS L X d cs_R_takesOther) (x2 : Int32) {o : Option Value × PH} {Q : ((Int32) ⊕ (Unit)) → MI → Prop} (qb : ∀ y I, Q (.inl y) I → At L X (d + 1) 240 85 [(112, .ref 207), (0, dV), (0, .int x2), (0, .int y)] [] I o) (qr : ∀ v I, Q (.inr v) I → o = (none, HH I)) (y : Int32) (I : MI) (r : (Int32) ⊕ (Unit)) (I1 : MI) (h : B_R_takesOther_85 x2 y I = some (r, I1)) (hq : Q r I1) : At L X (d + 1) 240 85 [(112, .ref 207), (0, dV), (0, .int x2), (0, .int y)] [] I o := by
  refine wf_ok z_R_takesOther hcs ?_ ?_ _ _ _ _ _ ⟨rfl, trivial, trivial, trivial, trivial⟩ trivial (unm_refl _ _) ((congrFun (e_b_R_takesOther_85 (L := L) (X := X) x2 y) I).trans h)
  · intro pc ls st I2 h1 h2 h3 h
    rcases mC_ok h with ⟨hb, h⟩ | ⟨_, h⟩
    · have e := Nat.eq_of_beq_eq_true hb
      subst e
      obtain ⟨hst, h⟩ := mN_ok h
      subst hst
      obtain ⟨n1, h⟩ := gD_ok h
      obtain ⟨a3, n3, h⟩ := gI_ok h
      refine at_leaf (ls2 := [(112, .ref 207), (0, dV), (0, .int x2), (0, .int a3)]) h3.1 ⟨Or.inr ⟨_, (h3.2 0 rfl).trans rfl⟩, Or.inl ⟨rfl, n1⟩, Or.inr ⟨_, (h3.2 2 rfl).trans rfl⟩, Or.inr n3, trivial⟩ ?_
      cases h; exact qb _ _ hq
    cases h
  · intro v I2 _ h
    split at h
    · cases h; exact qr _ _ hq
    · cases h
def K_R_takesOther_85 (x2 : Int32) (x3 : Int32) : M (Unit) :=
  lp (B_R_takesOther_85 x2) FU x3
theorem s_R_takesOther_85 {d : Nat} (hcs : AllS L X d cs_R_takesOther) (x2 : Int32) (x3 : Int32) {o : Option Value × PH} {Q : (Unit) → MI → Prop} (q0 : ∀ v I, Q v I → o = (none, HH I)) (I : MI) (r : Unit) (I1 : MI) (h : K_R_takesOther_85 x2 x3 I = some (r, I1)) (hq : Q r I1) : At L X (d + 1) 240 85 [(112, .ref 207), (0, dV), (0, .int x2), (0, .int x3)] [] I o := by
  unfold K_R_takesOther_85 at h
  have w0 := fun w => at_lp (body := B_R_takesOther_85 x2) (P := (fun (y : Int32) I => At L X (d + 1) 240 85 [(112, .ref 207), (0, dV), (0, .int x2), (0, .int y)] [] I o)) (Q := (fun (e : Unit) I => Q e I)) w FU x3 I r I1 h hq
  refine w0 ?_
  intro y I r I1 h hq
  exact b_R_takesOther_85 hcs x2 (Q := SQ (fun (y : Int32) I => At L X (d + 1) 240 85 [(112, .ref 207), (0, dV), (0, .int x2), (0, .int y)] [] I o) (fun (e : Unit) I => Q e I)) (fun _ _ w => w) q0 y I r I1 h hq
def F_R_takesOther (x1 : Int32) (x2 : Int32) : M (Unit) :=
  (if x1 = (3 : Int32) then
    K_R_takesOther_7 x2 (0 : Int32)
  else
    (if x1 = (1 : Int32) then
      K_R_takesOther_47 x2 (0 : Int32)
    else
      K_R_takesOther_85 x2 (0 : Int32)))
set_option maxRecDepth 4000 in
theorem e_s_R_takesOther_0 (k_7 : Int32 → Int32 → M (Unit)) (k_47 : Int32 → Int32 → M (Unit)) (k_85 : Int32 → Int32 → M (Unit)) (x1 : Int32) (x2 : Int32) : wf (β := Unit) L X q_R_takesOther 0 cs_R_takesOther [3] [7, 47, 85] (fun pc ls st => mC (Nat.beq pc 7) (mN st <| gD ls 1 <| gI ls 3 fun a3 => k_7 x2 a3) (mC (Nat.beq pc 47) (mN st <| gD ls 1 <| gI ls 3 fun a3 => k_47 x2 a3) (mC (Nat.beq pc 85) (mN st <| gD ls 1 <| gI ls 3 fun a3 => k_85 x2 a3) (fl)))) (fun v => match v with | none => rt () | _ => fl) 81 0 [(112, .ref 207), (0, .int x1), (0, .int x2), (0, dV)] [] = ((if x1 = (3 : Int32) then
    k_7 x2 (0 : Int32)
  else
    (if x1 = (1 : Int32) then
      k_47 x2 (0 : Int32)
    else
      k_85 x2 (0 : Int32)))) := rfl
theorem s_R_takesOther_0 {d : Nat} (hcs : AllS L X d cs_R_takesOther) (x1 : Int32) (x2 : Int32) {o : Option Value × PH} {Q : (Unit) → MI → Prop} (q0 : ∀ v I, Q v I → o = (none, HH I)) (I : MI) (r : Unit) (I1 : MI) (h : F_R_takesOther x1 x2 I = some (r, I1)) (hq : Q r I1) : At L X (d + 1) 240 0 [(112, .ref 207), (0, .int x1), (0, .int x2), (0, dV)] [] I o := by
  refine wf_ok z_R_takesOther hcs ?_ ?_ _ _ _ _ _ ⟨rfl, trivial, trivial, trivial, trivial⟩ trivial (unm_refl _ _) ((congrFun (e_s_R_takesOther_0 (L := L) (X := X) K_R_takesOther_7 K_R_takesOther_47 K_R_takesOther_85 x1 x2) I).trans h)
  · intro pc ls st I2 h1 h2 h3 h
    rcases mC_ok h with ⟨hb, h⟩ | ⟨_, h⟩
    · have e := Nat.eq_of_beq_eq_true hb
      subst e
      obtain ⟨hst, h⟩ := mN_ok h
      subst hst
      obtain ⟨n1, h⟩ := gD_ok h
      obtain ⟨a3, n3, h⟩ := gI_ok h
      refine at_leaf (ls2 := [(112, .ref 207), (0, dV), (0, .int x2), (0, .int a3)]) h3.1 ⟨Or.inr ⟨_, (h3.2 0 rfl).trans rfl⟩, Or.inl ⟨rfl, n1⟩, Or.inr ⟨_, (h3.2 2 rfl).trans rfl⟩, Or.inr n3, trivial⟩ ?_
      exact s_R_takesOther_7 hcs x2 a3 q0 _ _ _ h hq
    rcases mC_ok h with ⟨hb, h⟩ | ⟨_, h⟩
    · have e := Nat.eq_of_beq_eq_true hb
      subst e
      obtain ⟨hst, h⟩ := mN_ok h
      subst hst
      obtain ⟨n1, h⟩ := gD_ok h
      obtain ⟨a3, n3, h⟩ := gI_ok h
      refine at_leaf (ls2 := [(112, .ref 207), (0, dV), (0, .int x2), (0, .int a3)]) h3.1 ⟨Or.inr ⟨_, (h3.2 0 rfl).trans rfl⟩, Or.inl ⟨rfl, n1⟩, Or.inr ⟨_, (h3.2 2 rfl).trans rfl⟩, Or.inr n3, trivial⟩ ?_
      exact s_R_takesOther_47 hcs x2 a3 q0 _ _ _ h hq
    rcases mC_ok h with ⟨hb, h⟩ | ⟨_, h⟩
    · have e := Nat.eq_of_beq_eq_true hb
      subst e
      obtain ⟨hst, h⟩ := mN_ok h
      subst hst
      obtain ⟨n1, h⟩ := gD_ok h
      obtain ⟨a3, n3, h⟩ := gI_ok h
      refine at_leaf (ls2 := [(112, .ref 207), (0, dV), (0, .int x2), (0, .int a3)]) h3.1 ⟨Or.inr ⟨_, (h3.2 0 rfl).trans rfl⟩, Or.inl ⟨rfl, n1⟩, Or.inr ⟨_, (h3.2 2 rfl).trans rfl⟩, Or.inr n3, trivial⟩ ?_
      exact s_R_takesOther_85 hcs x2 a3 q0 _ _ _ h hq
    cases h
  · intro v I2 _ h
    split at h
    · cases h; exact q0 _ _ hq
    · cases h
theorem w_R_takesOther {d : Nat} (hcs : AllS L X d cs_R_takesOther) : Snd L X (d + 1) 240 3 (W_R_takesOther F_R_takesOther) := by
  refine ⟨_, z_R_takesOther, rfl, fun β args k I r hty hlen h => ?_⟩
  unfold W_R_takesOther at h
  split at h
  · rename_i t0 a0 u1 a1 u2 a2
    obtain ⟨hb0, h⟩ := mB_ok h
    have e0 := Nat.eq_of_beq_eq_true hb0
    have g0 : okB 112 a0 = true := e0 ▸ hty.1
    have e20 := one_112 g0
    subst e20
    obtain ⟨v, I1, h1, h2⟩ := bn_some h
    refine ⟨gf_obj (c := 12) (by decide) g0, rfl, none, I1, trivial, ?_, h2⟩
    exact s_R_takesOther_0 hcs a1 a2  (Q := fun w I => w = v ∧ I = I1) (fun w I q => by obtain ⟨rfl, rfl⟩ := q; rfl) I v I1 h1 ⟨rfl, rfl⟩
  · cases h
theorem S_R_takesOther {d : Nat} (hd : 1 ≤ d) : Snd L X d 240 3 (W_R_takesOther F_R_takesOther) := by
  obtain ⟨e, rfl⟩ : ∃ e, d = e + 1 := ⟨d - 1, by omega⟩
  exact w_R_takesOther trivial
set_option maxRecDepth 100000 in
theorem z_R_text : pT[205]? = some (q_R_text, 2, 3, 1, 12) := rfl
def W_R_text (F : Int32 → M Int32) : CSem := fun _ args k => match args with
  | [(t0, .ref a0), (_, .int a1)] => mB (Nat.beq t0 112) <| bn (F a1) fun v => k (some (0, .int v))
  | _ => fl
def cs_R_text (f_R_isIn : Int32 → Int32 → Int32 → M Int32) (f_R_readsText : Int32 → M Int32) (f_R_takesLaw : Int32 → M Unit) (f_R_takesOther : Int32 → Int32 → M Unit) : List (Nat × Nat × CSem) := [(195, 4, W_R_isIn f_R_isIn), (206, 2, W_R_readsText f_R_readsText), (239, 2, W_R_takesLaw f_R_takesLaw), (240, 3, W_R_takesOther f_R_takesOther)]
def K_R_text_69 (x1 : Int32) (x2 : Int32) : M (Int32) :=
  bn (wr 207 14 (0 : Int32)) fun _ =>
  (if x2 = (-1 : Int32) then
    rt (-1 : Int32)
  else
    (if x1 = 0 then
      bn (F_R_takesLaw x2) fun _ =>
      rt x2
    else
      bn (F_R_takesOther x1 x2) fun _ =>
      rt x2))
set_option maxRecDepth 4000 in
theorem e_s_R_text_69 (f_R_isIn : Int32 → Int32 → Int32 → M Int32) (f_R_readsText : Int32 → M Int32) (f_R_takesLaw : Int32 → M Unit) (f_R_takesOther : Int32 → Int32 → M Unit) (x1 : Int32) (x2 : Int32) : wf (β := Int32) L X q_R_text 1 (cs_R_text f_R_isIn f_R_readsText f_R_takesLaw f_R_takesOther) [] [69] (fun _ _ _ => fl) (fun v => match v with | some (_, .int x) => rt x | _ => fl) 66 69 [(112, .ref 207), (0, .int x1), (0, .int x2)] [] = (bn (wr 207 14 (0 : Int32)) fun _ =>
  (if x2 = (-1 : Int32) then
    rt (-1 : Int32)
  else
    (if x1 = 0 then
      bn (f_R_takesLaw x2) fun _ =>
      rt x2
    else
      bn (f_R_takesOther x1 x2) fun _ =>
      rt x2))) := rfl
theorem s_R_text_69 {d : Nat} (hcs : AllS L X d (cs_R_text F_R_isIn F_R_readsText F_R_takesLaw F_R_takesOther)) (x1 : Int32) (x2 : Int32) {o : Option Value × PH} {Q : (Int32) → MI → Prop} (q0 : ∀ v I, Q v I → o = (some (.int v), HH I)) (I : MI) (r : Int32) (I1 : MI) (h : K_R_text_69 x1 x2 I = some (r, I1)) (hq : Q r I1) : At L X (d + 1) 205 69 [(112, .ref 207), (0, .int x1), (0, .int x2)] [] I o := by
  refine wf_ok z_R_text hcs ?_ ?_ _ _ _ _ _ ⟨rfl, trivial, trivial, trivial⟩ trivial (unm_refl _ _) ((congrFun (e_s_R_text_69 (L := L) (X := X) F_R_isIn F_R_readsText F_R_takesLaw F_R_takesOther x1 x2) I).trans h)
  · intro pc ls st I2 h1 h2 h3 h
    cases h
  · intro v I2 _ h
    split at h
    · cases h; exact q0 _ _ hq
    · cases h
def F_R_text (x1 : Int32) : M (Int32) :=
  bn (wr 207 0 (0 : Int32)) fun _ =>
  bn (wr 207 34 (0 : Int32)) fun _ =>
  bn (wr 207 35 (-1 : Int32)) fun _ =>
  bn (wr 207 15 (0 : Int32)) fun _ =>
  bn (wr 207 28 (0 : Int32)) fun _ =>
  bn (wr 207 29 (0 : Int32)) fun _ =>
  bn (F_R_isIn x1 (0 : Int32) (3 : Int32)) fun v1 =>
  (if v1 = 0 then
    K_R_text_69 x1 (-1 : Int32)
  else
    bn (F_R_readsText x1) fun v2 =>
    (if v2 = (-1 : Int32) then
      bn (rd 207 32) fun v3 =>
      bn (wr 207 34 v3) fun _ =>
      bn (rd 207 33) fun v4 =>
      bn (wr 207 35 v4) fun _ =>
      K_R_text_69 x1 v2
    else
      K_R_text_69 x1 v2))
set_option maxRecDepth 4000 in
theorem e_s_R_text_0 (f_R_isIn : Int32 → Int32 → Int32 → M Int32) (f_R_readsText : Int32 → M Int32) (f_R_takesLaw : Int32 → M Unit) (f_R_takesOther : Int32 → Int32 → M Unit) (k_69 : Int32 → Int32 → M (Int32)) (x1 : Int32) : wf (β := Int32) L X q_R_text 1 (cs_R_text f_R_isIn f_R_readsText f_R_takesLaw f_R_takesOther) [2] [69] (fun pc ls st => mC (Nat.beq pc 69) (mN st <| gI ls 2 fun a2 => k_69 x1 a2) (fl)) (fun v => match v with | some (_, .int x) => rt x | _ => fl) 66 0 [(112, .ref 207), (0, .int x1), (0, dV)] [] = (bn (wr 207 0 (0 : Int32)) fun _ =>
  bn (wr 207 34 (0 : Int32)) fun _ =>
  bn (wr 207 35 (-1 : Int32)) fun _ =>
  bn (wr 207 15 (0 : Int32)) fun _ =>
  bn (wr 207 28 (0 : Int32)) fun _ =>
  bn (wr 207 29 (0 : Int32)) fun _ =>
  bn (f_R_isIn x1 (0 : Int32) (3 : Int32)) fun v1 =>
  (if v1 = 0 then
    k_69 x1 (-1 : Int32)
  else
    bn (f_R_readsText x1) fun v2 =>
    (if v2 = (-1 : Int32) then
      bn (rd 207 32) fun v3 =>
      bn (wr 207 34 v3) fun _ =>
      bn (rd 207 33) fun v4 =>
      bn (wr 207 35 v4) fun _ =>
      k_69 x1 v2
    else
      k_69 x1 v2))) := rfl
theorem s_R_text_0 {d : Nat} (hcs : AllS L X d (cs_R_text F_R_isIn F_R_readsText F_R_takesLaw F_R_takesOther)) (x1 : Int32) {o : Option Value × PH} {Q : (Int32) → MI → Prop} (q0 : ∀ v I, Q v I → o = (some (.int v), HH I)) (I : MI) (r : Int32) (I1 : MI) (h : F_R_text x1 I = some (r, I1)) (hq : Q r I1) : At L X (d + 1) 205 0 [(112, .ref 207), (0, .int x1), (0, dV)] [] I o := by
  refine wf_ok z_R_text hcs ?_ ?_ _ _ _ _ _ ⟨rfl, trivial, trivial, trivial⟩ trivial (unm_refl _ _) ((congrFun (e_s_R_text_0 (L := L) (X := X) F_R_isIn F_R_readsText F_R_takesLaw F_R_takesOther K_R_text_69 x1) I).trans h)
  · intro pc ls st I2 h1 h2 h3 h
    rcases mC_ok h with ⟨hb, h⟩ | ⟨_, h⟩
    · have e := Nat.eq_of_beq_eq_true hb
      subst e
      obtain ⟨hst, h⟩ := mN_ok h
      subst hst
      obtain ⟨a2, n2, h⟩ := gI_ok h
      refine at_leaf (ls2 := [(112, .ref 207), (0, .int x1), (0, .int a2)]) h3.1 ⟨Or.inr ⟨_, (h3.2 0 rfl).trans rfl⟩, Or.inr ⟨_, (h3.2 1 rfl).trans rfl⟩, Or.inr n2, trivial⟩ ?_
      exact s_R_text_69 hcs x1 a2 q0 _ _ _ h hq
    cases h
  · intro v I2 _ h
    split at h
    · cases h; exact q0 _ _ hq
    · cases h
theorem w_R_text {d : Nat} (hcs : AllS L X d (cs_R_text F_R_isIn F_R_readsText F_R_takesLaw F_R_takesOther)) : Snd L X (d + 1) 205 2 (W_R_text F_R_text) := by
  refine ⟨_, z_R_text, rfl, fun β args k I r hty hlen h => ?_⟩
  unfold W_R_text at h
  split at h
  · rename_i t0 a0 u1 a1
    obtain ⟨hb0, h⟩ := mB_ok h
    have e0 := Nat.eq_of_beq_eq_true hb0
    have g0 : okB 112 a0 = true := e0 ▸ hty.1
    have e20 := one_112 g0
    subst e20
    obtain ⟨v, I1, h1, h2⟩ := bn_some h
    refine ⟨gf_obj (c := 12) (by decide) g0, rfl, some (0, .int v), I1, trivial, ?_, h2⟩
    exact s_R_text_0 hcs a1  (Q := fun w I => w = v ∧ I = I1) (fun w I q => by obtain ⟨rfl, rfl⟩ := q; rfl) I v I1 h1 ⟨rfl, rfl⟩
  · cases h
theorem S_R_text {d : Nat} (hd : 11 ≤ d) : Snd L X d 205 2 (W_R_text F_R_text) := by
  obtain ⟨e, rfl⟩ : ∃ e, d = e + 1 := ⟨d - 1, by omega⟩
  exact w_R_text ⟨S_R_isIn (by omega), S_R_readsText (by omega), S_R_takesLaw (by omega), S_R_takesOther (by omega), trivial⟩
set_option maxRecDepth 100000 in
theorem z_R_undo : pT[192]? = some (q_R_undo, 1, 2, 2, 12) := rfl
def W_R_undo (F : M Int32) : CSem := fun _ args k => match args with
  | [(t0, .ref a0)] => mB (Nat.beq t0 112) <| bn (F) fun v => k (some (0, .int v))
  | _ => fl
def cs_R_undo : List (Nat × Nat × CSem) := []
def B_R_undo_26 (y : Int32) : M ((Int32) ⊕ (Int32)) :=
  (if y < (95 : Int32) then
    bn (rd 207 3) fun v1 =>
    bn (ld 570 209 (((95 : Int32) * v1) + y)) fun v2 =>
    bn (sr 95 208 y v2) fun _ =>
    rt (.inl (y + (1 : Int32)))
  else
    bn (gdZ (1 : Int32)) fun _ => rt (.inr (1 : Int32)))
set_option maxRecDepth 4000 in
theorem e_b_R_undo_26 (y : Int32) : wf (β := (Int32) ⊕ (Int32)) L X q_R_undo 2 cs_R_undo [1] [26] (fun pc ls st => mC (Nat.beq pc 26) (mN st <| gI ls 1 fun a1 => rt (.inl a1)) (fl)) (fun v => match v with | some (_, .int x) => rt (.inr x) | _ => fl) 41 26 [(112, .ref 207), (0, .int y)] [] = ((if y < (95 : Int32) then
    bn (rd 207 3) fun v1 =>
    bn (ld 570 209 (((95 : Int32) * v1) + y)) fun v2 =>
    bn (sr 95 208 y v2) fun _ =>
    rt (.inl (y + (1 : Int32)))
  else
    bn (gdZ (1 : Int32)) fun _ => rt (.inr (1 : Int32)))) := rfl
theorem b_R_undo_26 {d : Nat} (hcs : AllS L X d cs_R_undo) {o : Option Value × PH} {Q : ((Int32) ⊕ (Int32)) → MI → Prop} (qb : ∀ y I, Q (.inl y) I → At L X (d + 1) 192 26 [(112, .ref 207), (0, .int y)] [] I o) (qr : ∀ v I, Q (.inr v) I → o = (some (.int v), HH I)) (y : Int32) (I : MI) (r : (Int32) ⊕ (Int32)) (I1 : MI) (h : B_R_undo_26 y I = some (r, I1)) (hq : Q r I1) : At L X (d + 1) 192 26 [(112, .ref 207), (0, .int y)] [] I o := by
  refine wf_ok z_R_undo hcs ?_ ?_ _ _ _ _ _ ⟨rfl, trivial, trivial⟩ trivial (unm_refl _ _) ((congrFun (e_b_R_undo_26 (L := L) (X := X) y) I).trans h)
  · intro pc ls st I2 h1 h2 h3 h
    rcases mC_ok h with ⟨hb, h⟩ | ⟨_, h⟩
    · have e := Nat.eq_of_beq_eq_true hb
      subst e
      obtain ⟨hst, h⟩ := mN_ok h
      subst hst
      obtain ⟨a1, n1, h⟩ := gI_ok h
      refine at_leaf (ls2 := [(112, .ref 207), (0, .int a1)]) h3.1 ⟨Or.inr ⟨_, (h3.2 0 rfl).trans rfl⟩, Or.inr n1, trivial⟩ ?_
      cases h; exact qb _ _ hq
    cases h
  · intro v I2 _ h
    split at h
    · cases h; exact qr _ _ hq
    · cases h
def K_R_undo_26 (x1 : Int32) : M (Int32) :=
  lp (B_R_undo_26) FU x1
theorem s_R_undo_26 {d : Nat} (hcs : AllS L X d cs_R_undo) (x1 : Int32) {o : Option Value × PH} {Q : (Int32) → MI → Prop} (q0 : ∀ v I, Q v I → o = (some (.int v), HH I)) (I : MI) (r : Int32) (I1 : MI) (h : K_R_undo_26 x1 I = some (r, I1)) (hq : Q r I1) : At L X (d + 1) 192 26 [(112, .ref 207), (0, .int x1)] [] I o := by
  unfold K_R_undo_26 at h
  have w0 := fun w => at_lp (body := B_R_undo_26) (P := (fun (y : Int32) I => At L X (d + 1) 192 26 [(112, .ref 207), (0, .int y)] [] I o)) (Q := (fun (e : Int32) I => Q e I)) w FU x1 I r I1 h hq
  refine w0 ?_
  intro y I r I1 h hq
  exact b_R_undo_26 hcs (Q := SQ (fun (y : Int32) I => At L X (d + 1) 192 26 [(112, .ref 207), (0, .int y)] [] I o) (fun (e : Int32) I => Q e I)) (fun _ _ w => w) q0 y I r I1 h hq
def F_R_undo : M (Int32) :=
  bn (wr 207 0 (0 : Int32)) fun _ =>
  bn (rd 207 3) fun v1 =>
  (if v1 = 0 then
    bn (gdZ (0 : Int32)) fun _ => rt (0 : Int32)
  else
    bn (rd 207 3) fun v2 =>
    bn (wr 207 3 (v2 - (1 : Int32))) fun _ =>
    K_R_undo_26 (0 : Int32))
set_option maxRecDepth 4000 in
theorem e_s_R_undo_0 (k_26 : Int32 → M (Int32)) : wf (β := Int32) L X q_R_undo 2 cs_R_undo [1] [26] (fun pc ls st => mC (Nat.beq pc 26) (mN st <| gI ls 1 fun a1 => k_26 a1) (fl)) (fun v => match v with | some (_, .int x) => rt x | _ => fl) 41 0 [(112, .ref 207), (0, dV)] [] = (bn (wr 207 0 (0 : Int32)) fun _ =>
  bn (rd 207 3) fun v1 =>
  (if v1 = 0 then
    bn (gdZ (0 : Int32)) fun _ => rt (0 : Int32)
  else
    bn (rd 207 3) fun v2 =>
    bn (wr 207 3 (v2 - (1 : Int32))) fun _ =>
    k_26 (0 : Int32))) := rfl
theorem s_R_undo_0 {d : Nat} (hcs : AllS L X d cs_R_undo) {o : Option Value × PH} {Q : (Int32) → MI → Prop} (q0 : ∀ v I, Q v I → o = (some (.int v), HH I)) (I : MI) (r : Int32) (I1 : MI) (h : F_R_undo I = some (r, I1)) (hq : Q r I1) : At L X (d + 1) 192 0 [(112, .ref 207), (0, dV)] [] I o := by
  refine wf_ok z_R_undo hcs ?_ ?_ _ _ _ _ _ ⟨rfl, trivial, trivial⟩ trivial (unm_refl _ _) ((congrFun (e_s_R_undo_0 (L := L) (X := X) K_R_undo_26) I).trans h)
  · intro pc ls st I2 h1 h2 h3 h
    rcases mC_ok h with ⟨hb, h⟩ | ⟨_, h⟩
    · have e := Nat.eq_of_beq_eq_true hb
      subst e
      obtain ⟨hst, h⟩ := mN_ok h
      subst hst
      obtain ⟨a1, n1, h⟩ := gI_ok h
      refine at_leaf (ls2 := [(112, .ref 207), (0, .int a1)]) h3.1 ⟨Or.inr ⟨_, (h3.2 0 rfl).trans rfl⟩, Or.inr n1, trivial⟩ ?_
      exact s_R_undo_26 hcs a1 q0 _ _ _ h hq
    cases h
  · intro v I2 _ h
    split at h
    · cases h; exact q0 _ _ hq
    · cases h
theorem w_R_undo {d : Nat} (hcs : AllS L X d cs_R_undo) : Snd L X (d + 1) 192 1 (W_R_undo F_R_undo) := by
  refine ⟨_, z_R_undo, rfl, fun β args k I r hty hlen h => ?_⟩
  unfold W_R_undo at h
  split at h
  · rename_i t0 a0
    obtain ⟨hb0, h⟩ := mB_ok h
    have e0 := Nat.eq_of_beq_eq_true hb0
    have g0 : okB 112 a0 = true := e0 ▸ hty.1
    have e20 := one_112 g0
    subst e20
    obtain ⟨v, I1, h1, h2⟩ := bn_some h
    refine ⟨gf_obj (c := 12) (by decide) g0, rfl, some (0, .int v), I1, trivial, ?_, h2⟩
    exact s_R_undo_0 hcs   (Q := fun w I => w = v ∧ I = I1) (fun w I q => by obtain ⟨rfl, rfl⟩ := q; rfl) I v I1 h1 ⟨rfl, rfl⟩
  · cases h
theorem S_R_undo {d : Nat} (hd : 1 ≤ d) : Snd L X d 192 1 (W_R_undo F_R_undo) := by
  obtain ⟨e, rfl⟩ : ∃ e, d = e + 1 := ⟨d - 1, by omega⟩
  exact w_R_undo trivial
set_option maxRecDepth 100000 in
theorem z_R_vote : pT[297]? = some (q_R_vote, 2, 2, 1, 12) := rfl
def W_R_vote (F : Int32 → M Int32) : CSem := fun _ args k => match args with
  | [(t0, .ref a0), (_, .int a1)] => mB (Nat.beq t0 112) <| bn (F a1) fun v => k (some (0, .int v))
  | _ => fl
def cs_R_vote (f_R_isIn : Int32 → Int32 → Int32 → M Int32) : List (Nat × Nat × CSem) := [(195, 4, W_R_isIn f_R_isIn)]
def F_R_vote (x1 : Int32) : M (Int32) :=
  bn (wr 207 0 (0 : Int32)) fun _ =>
  (if x1 = (-1 : Int32) then
    bn (wr 207 57 (0 : Int32)) fun _ =>
    rt (0 : Int32)
  else
    bn (F_R_isIn x1 (1 : Int32) (30 : Int32)) fun v1 =>
    (if v1 = 0 then
      rt (-1 : Int32)
    else
      bn (rd 207 57) fun v2 =>
      (if v2 = (6 : Int32) then
        rt (-1 : Int32)
      else
        bn (rd 207 57) fun v3 =>
        bn (sr 6 241 v3 x1) fun _ =>
        bn (rd 207 57) fun v4 =>
        bn (wr 207 57 (v4 + (1 : Int32))) fun _ =>
        bn (rd 207 57) fun v5 =>
        rt v5)))
set_option maxRecDepth 4000 in
theorem e_s_R_vote_0 (f_R_isIn : Int32 → Int32 → Int32 → M Int32) (x1 : Int32) : wf (β := Int32) L X q_R_vote 1 (cs_R_vote f_R_isIn) [] [] (fun _ _ _ => fl) (fun v => match v with | some (_, .int x) => rt x | _ => fl) 43 0 [(112, .ref 207), (0, .int x1)] [] = (bn (wr 207 0 (0 : Int32)) fun _ =>
  (if x1 = (-1 : Int32) then
    bn (wr 207 57 (0 : Int32)) fun _ =>
    rt (0 : Int32)
  else
    bn (f_R_isIn x1 (1 : Int32) (30 : Int32)) fun v1 =>
    (if v1 = 0 then
      rt (-1 : Int32)
    else
      bn (rd 207 57) fun v2 =>
      (if v2 = (6 : Int32) then
        rt (-1 : Int32)
      else
        bn (rd 207 57) fun v3 =>
        bn (sr 6 241 v3 x1) fun _ =>
        bn (rd 207 57) fun v4 =>
        bn (wr 207 57 (v4 + (1 : Int32))) fun _ =>
        bn (rd 207 57) fun v5 =>
        rt v5)))) := rfl
theorem s_R_vote_0 {d : Nat} (hcs : AllS L X d (cs_R_vote F_R_isIn)) (x1 : Int32) {o : Option Value × PH} {Q : (Int32) → MI → Prop} (q0 : ∀ v I, Q v I → o = (some (.int v), HH I)) (I : MI) (r : Int32) (I1 : MI) (h : F_R_vote x1 I = some (r, I1)) (hq : Q r I1) : At L X (d + 1) 297 0 [(112, .ref 207), (0, .int x1)] [] I o := by
  refine wf_ok z_R_vote hcs ?_ ?_ _ _ _ _ _ ⟨rfl, trivial, trivial⟩ trivial (unm_refl _ _) ((congrFun (e_s_R_vote_0 (L := L) (X := X) F_R_isIn x1) I).trans h)
  · intro pc ls st I2 h1 h2 h3 h
    cases h
  · intro v I2 _ h
    split at h
    · cases h; exact q0 _ _ hq
    · cases h
theorem w_R_vote {d : Nat} (hcs : AllS L X d (cs_R_vote F_R_isIn)) : Snd L X (d + 1) 297 2 (W_R_vote F_R_vote) := by
  refine ⟨_, z_R_vote, rfl, fun β args k I r hty hlen h => ?_⟩
  unfold W_R_vote at h
  split at h
  · rename_i t0 a0 u1 a1
    obtain ⟨hb0, h⟩ := mB_ok h
    have e0 := Nat.eq_of_beq_eq_true hb0
    have g0 : okB 112 a0 = true := e0 ▸ hty.1
    have e20 := one_112 g0
    subst e20
    obtain ⟨v, I1, h1, h2⟩ := bn_some h
    refine ⟨gf_obj (c := 12) (by decide) g0, rfl, some (0, .int v), I1, trivial, ?_, h2⟩
    exact s_R_vote_0 hcs a1  (Q := fun w I => w = v ∧ I = I1) (fun w I q => by obtain ⟨rfl, rfl⟩ := q; rfl) I v I1 h1 ⟨rfl, rfl⟩
  · cases h
theorem S_R_vote {d : Nat} (hd : 2 ≤ d) : Snd L X d 297 2 (W_R_vote F_R_vote) := by
  obtain ⟨e, rfl⟩ : ∃ e, d = e + 1 := ⟨d - 1, by omega⟩
  exact w_R_vote ⟨S_R_isIn (by omega), trivial⟩
set_option maxRecDepth 100000 in
theorem z_R_aliasesOf : pT[274]? = some (q_R_aliasesOf, 3, 5, 1, 12) := rfl
def W_R_aliasesOf (F : Int32 → Int32 → M Int32) : CSem := fun _ args k => match args with
  | [(t0, .ref a0), (_, .int a1), (_, .int a2)] => mB (Nat.beq t0 112) <| bn (F a1 a2) fun v => k (some (0, .int v))
  | _ => fl
def cs_R_aliasesOf (f_R_isOut : Int32 → M Int32) : List (Nat × Nat × CSem) := [(252, 2, W_R_isOut f_R_isOut)]
def B_R_aliasesOf_5 (x1 : Int32) (x2 : Int32) (y : Int32 × Int32) : M ((Int32 × Int32) ⊕ (Int32)) :=
  bn (rd 207 7) fun v1 =>
  (if y.2 < v1 then
    bn (ld 18 212 y.2) fun v2 =>
    (if v2 = x1 then
      (if x2 = 0 then
        rt (.inl ((y.1 ||| ((1 : Int32) <<< (y.2 &&& 31))), (y.2 + (1 : Int32))))
      else
        bn (F_R_isOut y.2) fun v3 =>
        (if v3 = 0 then
          rt (.inl (y.1, (y.2 + (1 : Int32))))
        else
          rt (.inl ((y.1 ||| ((1 : Int32) <<< (y.2 &&& 31))), (y.2 + (1 : Int32))))))
    else
      rt (.inl (y.1, (y.2 + (1 : Int32)))))
  else
    rt (.inr y.1))
set_option maxRecDepth 4000 in
theorem e_b_R_aliasesOf_5 (f_R_isOut : Int32 → M Int32) (x1 : Int32) (x2 : Int32) (y : Int32 × Int32) : wf (β := (Int32 × Int32) ⊕ (Int32)) L X q_R_aliasesOf 1 (cs_R_aliasesOf f_R_isOut) [3, 4] [5] (fun pc ls st => mC (Nat.beq pc 5) (mN st <| gI ls 3 fun a3 => gI ls 4 fun a4 => rt (.inl (a3, a4))) (fl)) (fun v => match v with | some (_, .int x) => rt (.inr x) | _ => fl) 35 5 [(112, .ref 207), (0, .int x1), (0, .int x2), (0, .int y.1), (0, .int y.2)] [] = (bn (rd 207 7) fun v1 =>
  (if y.2 < v1 then
    bn (ld 18 212 y.2) fun v2 =>
    (if v2 = x1 then
      (if x2 = 0 then
        rt (.inl ((y.1 ||| ((1 : Int32) <<< (y.2 &&& 31))), (y.2 + (1 : Int32))))
      else
        bn (f_R_isOut y.2) fun v3 =>
        (if v3 = 0 then
          rt (.inl (y.1, (y.2 + (1 : Int32))))
        else
          rt (.inl ((y.1 ||| ((1 : Int32) <<< (y.2 &&& 31))), (y.2 + (1 : Int32))))))
    else
      rt (.inl (y.1, (y.2 + (1 : Int32)))))
  else
    rt (.inr y.1))) := rfl
theorem b_R_aliasesOf_5 {d : Nat} (hcs : AllS L X d (cs_R_aliasesOf F_R_isOut)) (x1 : Int32) (x2 : Int32) {o : Option Value × PH} {Q : ((Int32 × Int32) ⊕ (Int32)) → MI → Prop} (qb : ∀ y I, Q (.inl y) I → At L X (d + 1) 274 5 [(112, .ref 207), (0, .int x1), (0, .int x2), (0, .int y.1), (0, .int y.2)] [] I o) (qr : ∀ v I, Q (.inr v) I → o = (some (.int v), HH I)) (y : Int32 × Int32) (I : MI) (r : (Int32 × Int32) ⊕ (Int32)) (I1 : MI) (h : B_R_aliasesOf_5 x1 x2 y I = some (r, I1)) (hq : Q r I1) : At L X (d + 1) 274 5 [(112, .ref 207), (0, .int x1), (0, .int x2), (0, .int y.1), (0, .int y.2)] [] I o := by
  refine wf_ok z_R_aliasesOf hcs ?_ ?_ _ _ _ _ _ ⟨rfl, trivial, trivial, trivial, trivial, trivial⟩ trivial (unm_refl _ _) ((congrFun (e_b_R_aliasesOf_5 (L := L) (X := X) F_R_isOut x1 x2 y) I).trans h)
  · intro pc ls st I2 h1 h2 h3 h
    rcases mC_ok h with ⟨hb, h⟩ | ⟨_, h⟩
    · have e := Nat.eq_of_beq_eq_true hb
      subst e
      obtain ⟨hst, h⟩ := mN_ok h
      subst hst
      obtain ⟨a3, n3, h⟩ := gI_ok h
      obtain ⟨a4, n4, h⟩ := gI_ok h
      refine at_leaf (ls2 := [(112, .ref 207), (0, .int x1), (0, .int x2), (0, .int a3), (0, .int a4)]) h3.1 ⟨Or.inr ⟨_, (h3.2 0 rfl).trans rfl⟩, Or.inr ⟨_, (h3.2 1 rfl).trans rfl⟩, Or.inr ⟨_, (h3.2 2 rfl).trans rfl⟩, Or.inr n3, Or.inr n4, trivial⟩ ?_
      cases h; exact qb _ _ hq
    cases h
  · intro v I2 _ h
    split at h
    · cases h; exact qr _ _ hq
    · cases h
def K_R_aliasesOf_5 (x1 : Int32) (x2 : Int32) (x3 : Int32) (x4 : Int32) : M (Int32) :=
  lp (B_R_aliasesOf_5 x1 x2) FU (x3, x4)
theorem s_R_aliasesOf_5 {d : Nat} (hcs : AllS L X d (cs_R_aliasesOf F_R_isOut)) (x1 : Int32) (x2 : Int32) (x3 : Int32) (x4 : Int32) {o : Option Value × PH} {Q : (Int32) → MI → Prop} (q0 : ∀ v I, Q v I → o = (some (.int v), HH I)) (I : MI) (r : Int32) (I1 : MI) (h : K_R_aliasesOf_5 x1 x2 x3 x4 I = some (r, I1)) (hq : Q r I1) : At L X (d + 1) 274 5 [(112, .ref 207), (0, .int x1), (0, .int x2), (0, .int x3), (0, .int x4)] [] I o := by
  unfold K_R_aliasesOf_5 at h
  have w0 := fun w => at_lp (body := B_R_aliasesOf_5 x1 x2) (P := (fun (y : Int32 × Int32) I => At L X (d + 1) 274 5 [(112, .ref 207), (0, .int x1), (0, .int x2), (0, .int y.1), (0, .int y.2)] [] I o)) (Q := (fun (e : Int32) I => Q e I)) w FU (x3, x4) I r I1 h hq
  refine w0 ?_
  intro y I r I1 h hq
  exact b_R_aliasesOf_5 hcs x1 x2 (Q := SQ (fun (y : Int32 × Int32) I => At L X (d + 1) 274 5 [(112, .ref 207), (0, .int x1), (0, .int x2), (0, .int y.1), (0, .int y.2)] [] I o) (fun (e : Int32) I => Q e I)) (fun _ _ w => w) q0 y I r I1 h hq
def F_R_aliasesOf (x1 : Int32) (x2 : Int32) : M (Int32) :=
  K_R_aliasesOf_5 x1 x2 (0 : Int32) (0 : Int32)
set_option maxRecDepth 4000 in
theorem e_s_R_aliasesOf_0 (f_R_isOut : Int32 → M Int32) (k_5 : Int32 → Int32 → Int32 → Int32 → M (Int32)) (x1 : Int32) (x2 : Int32) : wf (β := Int32) L X q_R_aliasesOf 1 (cs_R_aliasesOf f_R_isOut) [3, 4] [5] (fun pc ls st => mC (Nat.beq pc 5) (mN st <| gI ls 3 fun a3 => gI ls 4 fun a4 => k_5 x1 x2 a3 a4) (fl)) (fun v => match v with | some (_, .int x) => rt x | _ => fl) 35 0 [(112, .ref 207), (0, .int x1), (0, .int x2), (0, dV), (0, dV)] [] = (k_5 x1 x2 (0 : Int32) (0 : Int32)) := rfl
theorem s_R_aliasesOf_0 {d : Nat} (hcs : AllS L X d (cs_R_aliasesOf F_R_isOut)) (x1 : Int32) (x2 : Int32) {o : Option Value × PH} {Q : (Int32) → MI → Prop} (q0 : ∀ v I, Q v I → o = (some (.int v), HH I)) (I : MI) (r : Int32) (I1 : MI) (h : F_R_aliasesOf x1 x2 I = some (r, I1)) (hq : Q r I1) : At L X (d + 1) 274 0 [(112, .ref 207), (0, .int x1), (0, .int x2), (0, dV), (0, dV)] [] I o := by
  refine wf_ok z_R_aliasesOf hcs ?_ ?_ _ _ _ _ _ ⟨rfl, trivial, trivial, trivial, trivial, trivial⟩ trivial (unm_refl _ _) ((congrFun (e_s_R_aliasesOf_0 (L := L) (X := X) F_R_isOut K_R_aliasesOf_5 x1 x2) I).trans h)
  · intro pc ls st I2 h1 h2 h3 h
    rcases mC_ok h with ⟨hb, h⟩ | ⟨_, h⟩
    · have e := Nat.eq_of_beq_eq_true hb
      subst e
      obtain ⟨hst, h⟩ := mN_ok h
      subst hst
      obtain ⟨a3, n3, h⟩ := gI_ok h
      obtain ⟨a4, n4, h⟩ := gI_ok h
      refine at_leaf (ls2 := [(112, .ref 207), (0, .int x1), (0, .int x2), (0, .int a3), (0, .int a4)]) h3.1 ⟨Or.inr ⟨_, (h3.2 0 rfl).trans rfl⟩, Or.inr ⟨_, (h3.2 1 rfl).trans rfl⟩, Or.inr ⟨_, (h3.2 2 rfl).trans rfl⟩, Or.inr n3, Or.inr n4, trivial⟩ ?_
      exact s_R_aliasesOf_5 hcs x1 x2 a3 a4 q0 _ _ _ h hq
    cases h
  · intro v I2 _ h
    split at h
    · cases h; exact q0 _ _ hq
    · cases h
theorem w_R_aliasesOf {d : Nat} (hcs : AllS L X d (cs_R_aliasesOf F_R_isOut)) : Snd L X (d + 1) 274 3 (W_R_aliasesOf F_R_aliasesOf) := by
  refine ⟨_, z_R_aliasesOf, rfl, fun β args k I r hty hlen h => ?_⟩
  unfold W_R_aliasesOf at h
  split at h
  · rename_i t0 a0 u1 a1 u2 a2
    obtain ⟨hb0, h⟩ := mB_ok h
    have e0 := Nat.eq_of_beq_eq_true hb0
    have g0 : okB 112 a0 = true := e0 ▸ hty.1
    have e20 := one_112 g0
    subst e20
    obtain ⟨v, I1, h1, h2⟩ := bn_some h
    refine ⟨gf_obj (c := 12) (by decide) g0, rfl, some (0, .int v), I1, trivial, ?_, h2⟩
    exact s_R_aliasesOf_0 hcs a1 a2  (Q := fun w I => w = v ∧ I = I1) (fun w I q => by obtain ⟨rfl, rfl⟩ := q; rfl) I v I1 h1 ⟨rfl, rfl⟩
  · cases h
theorem S_R_aliasesOf {d : Nat} (hd : 2 ≤ d) : Snd L X d 274 3 (W_R_aliasesOf F_R_aliasesOf) := by
  obtain ⟨e, rfl⟩ : ∃ e, d = e + 1 := ⟨d - 1, by omega⟩
  exact w_R_aliasesOf ⟨S_R_isOut (by omega), trivial⟩
set_option maxRecDepth 100000 in
theorem z_R_who : pT[273]? = some (q_R_who, 3, 3, 1, 12) := rfl
def W_R_who (F : Int32 → Int32 → M Int32) : CSem := fun _ args k => match args with
  | [(t0, .ref a0), (_, .int a1), (_, .int a2)] => mB (Nat.beq t0 112) <| bn (F a1 a2) fun v => k (some (0, .int v))
  | _ => fl
def cs_R_who (f_R_aliasesOf : Int32 → Int32 → M Int32) (f_R_isIn : Int32 → Int32 → Int32 → M Int32) (f_R_isPerson : Int32 → M Int32) : List (Nat × Nat × CSem) := [(274, 3, W_R_aliasesOf f_R_aliasesOf), (195, 4, W_R_isIn f_R_isIn), (197, 2, W_R_isPerson f_R_isPerson)]
def F_R_who (x1 : Int32) (x2 : Int32) : M (Int32) :=
  bn (wr 207 0 (0 : Int32)) fun _ =>
  bn (F_R_isPerson x1) fun v1 =>
  (if v1 = 0 then
    rt (-1 : Int32)
  else
    bn (F_R_isIn x2 (0 : Int32) (3 : Int32)) fun v2 =>
    (if v2 = 0 then
      rt (-1 : Int32)
    else
      (if x2 = 0 then
        bn (ld 6 211 x1) fun v6 =>
        rt v6
      else
        (if x2 = (1 : Int32) then
          bn (ld 95 208 ((17 : Int32) + x1)) fun v5 =>
          rt v5
        else
          (if x2 = (3 : Int32) then
            bn (F_R_aliasesOf x1 (1 : Int32)) fun v4 =>
            rt v4
          else
            bn (F_R_aliasesOf x1 (0 : Int32)) fun v3 =>
            rt v3)))))
set_option maxRecDepth 4000 in
theorem e_s_R_who_0 (f_R_aliasesOf : Int32 → Int32 → M Int32) (f_R_isIn : Int32 → Int32 → Int32 → M Int32) (f_R_isPerson : Int32 → M Int32) (x1 : Int32) (x2 : Int32) : wf (β := Int32) L X q_R_who 1 (cs_R_who f_R_aliasesOf f_R_isIn f_R_isPerson) [] [] (fun _ _ _ => fl) (fun v => match v with | some (_, .int x) => rt x | _ => fl) 47 0 [(112, .ref 207), (0, .int x1), (0, .int x2)] [] = (bn (wr 207 0 (0 : Int32)) fun _ =>
  bn (f_R_isPerson x1) fun v1 =>
  (if v1 = 0 then
    rt (-1 : Int32)
  else
    bn (f_R_isIn x2 (0 : Int32) (3 : Int32)) fun v2 =>
    (if v2 = 0 then
      rt (-1 : Int32)
    else
      (if x2 = 0 then
        bn (ld 6 211 x1) fun v6 =>
        rt v6
      else
        (if x2 = (1 : Int32) then
          bn (ld 95 208 ((17 : Int32) + x1)) fun v5 =>
          rt v5
        else
          (if x2 = (3 : Int32) then
            bn (f_R_aliasesOf x1 (1 : Int32)) fun v4 =>
            rt v4
          else
            bn (f_R_aliasesOf x1 (0 : Int32)) fun v3 =>
            rt v3)))))) := rfl
theorem s_R_who_0 {d : Nat} (hcs : AllS L X d (cs_R_who F_R_aliasesOf F_R_isIn F_R_isPerson)) (x1 : Int32) (x2 : Int32) {o : Option Value × PH} {Q : (Int32) → MI → Prop} (q0 : ∀ v I, Q v I → o = (some (.int v), HH I)) (I : MI) (r : Int32) (I1 : MI) (h : F_R_who x1 x2 I = some (r, I1)) (hq : Q r I1) : At L X (d + 1) 273 0 [(112, .ref 207), (0, .int x1), (0, .int x2)] [] I o := by
  refine wf_ok z_R_who hcs ?_ ?_ _ _ _ _ _ ⟨rfl, trivial, trivial, trivial⟩ trivial (unm_refl _ _) ((congrFun (e_s_R_who_0 (L := L) (X := X) F_R_aliasesOf F_R_isIn F_R_isPerson x1 x2) I).trans h)
  · intro pc ls st I2 h1 h2 h3 h
    cases h
  · intro v I2 _ h
    split at h
    · cases h; exact q0 _ _ hq
    · cases h
theorem w_R_who {d : Nat} (hcs : AllS L X d (cs_R_who F_R_aliasesOf F_R_isIn F_R_isPerson)) : Snd L X (d + 1) 273 3 (W_R_who F_R_who) := by
  refine ⟨_, z_R_who, rfl, fun β args k I r hty hlen h => ?_⟩
  unfold W_R_who at h
  split at h
  · rename_i t0 a0 u1 a1 u2 a2
    obtain ⟨hb0, h⟩ := mB_ok h
    have e0 := Nat.eq_of_beq_eq_true hb0
    have g0 : okB 112 a0 = true := e0 ▸ hty.1
    have e20 := one_112 g0
    subst e20
    obtain ⟨v, I1, h1, h2⟩ := bn_some h
    refine ⟨gf_obj (c := 12) (by decide) g0, rfl, some (0, .int v), I1, trivial, ?_, h2⟩
    exact s_R_who_0 hcs a1 a2  (Q := fun w I => w = v ∧ I = I1) (fun w I q => by obtain ⟨rfl, rfl⟩ := q; rfl) I v I1 h1 ⟨rfl, rfl⟩
  · cases h
theorem S_R_who {d : Nat} (hd : 3 ≤ d) : Snd L X d 273 3 (W_R_who F_R_who) := by
  obtain ⟨e, rfl⟩ : ∃ e, d = e + 1 := ⟨d - 1, by omega⟩
  exact w_R_who ⟨S_R_aliasesOf (by omega), S_R_isIn (by omega), S_R_isPerson (by omega), trivial⟩
end
