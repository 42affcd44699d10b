/-! methods (written by wip/tools/gen_f.py) -/
section
variable {L : Nat} {X : Nat → Int32}
set_option maxRecDepth 100000 in
theorem z_R_street : pT[275]? = some (q_R_street, 3, 5, 1, 12) := rfl
def W_R_street (F : Int32 → Int32 → M Int32) : CSem := fun _ args k => match args with
  | [(t0, .ref a0), (_, .int a1), (_, .int a2)] => mB (Nat.beq t0 112) <| bn (F a1 a2) fun v => k (some (0, .int v))
  | _ => fl
def cs_R_street (f_R_isIn : Int32 → Int32 → Int32 → M Int32) (f_R_isOut : Int32 → M Int32) (f_R_isStreet : Int32 → M Int32) : List (Nat × Nat × CSem) := [(195, 4, W_R_isIn f_R_isIn), (252, 2, W_R_isOut f_R_isOut), (198, 2, W_R_isStreet f_R_isStreet)]
def B_R_street_56 (x1 : Int32) (y : Int32 × Int32) : M ((Int32 × Int32) ⊕ (Int32)) :=
  bn (rd 207 7) fun v1 =>
  (if y.2 < v1 then
    bn (F_R_isOut y.2) fun v2 =>
    (if v2 = 0 then
      rt (.inl (y.1, (y.2 + (1 : Int32))))
    else
      bn (ld 95 208 ((23 : Int32) + y.2)) fun v3 =>
      (if v3 = x1 then
        rt (.inl ((y.1 ||| ((1 : Int32) <<< (y.2 &&& 31))), (y.2 + (1 : Int32))))
      else
        rt (.inl (y.1, (y.2 + (1 : Int32))))))
  else
    rt (.inr y.1))
set_option maxRecDepth 4000 in
theorem e_b_R_street_56 (f_R_isIn : Int32 → Int32 → Int32 → M Int32) (f_R_isOut : Int32 → M Int32) (f_R_isStreet : Int32 → M Int32) (x1 : Int32) (y : Int32 × Int32) : wf (β := (Int32 × Int32) ⊕ (Int32)) L X q_R_street 1 (cs_R_street f_R_isIn f_R_isOut f_R_isStreet) [3, 4] [56] (fun pc ls st => mC (Nat.beq pc 56) (mN st <| gD ls 2 <| gI ls 3 fun a3 => gI ls 4 fun a4 => rt (.inl (a3, a4))) (fl)) (fun v => match v with | some (_, .int x) => rt (.inr x) | _ => fl) 67 56 [(112, .ref 207), (0, .int x1), (0, dV), (0, .int y.1), (0, .int y.2)] [] = (bn (rd 207 7) fun v1 =>
  (if y.2 < v1 then
    bn (f_R_isOut y.2) fun v2 =>
    (if v2 = 0 then
      rt (.inl (y.1, (y.2 + (1 : Int32))))
    else
      bn (ld 95 208 ((23 : Int32) + y.2)) fun v3 =>
      (if v3 = x1 then
        rt (.inl ((y.1 ||| ((1 : Int32) <<< (y.2 &&& 31))), (y.2 + (1 : Int32))))
      else
        rt (.inl (y.1, (y.2 + (1 : Int32))))))
  else
    rt (.inr y.1))) := rfl
theorem b_R_street_56 {d : Nat} (hcs : AllS L X d (cs_R_street F_R_isIn F_R_isOut F_R_isStreet)) (x1 : Int32) {o : Option Value × PH} {Q : ((Int32 × Int32) ⊕ (Int32)) → MI → Prop} (qb : ∀ y I, Q (.inl y) I → At L X (d + 1) 275 56 [(112, .ref 207), (0, .int x1), (0, dV), (0, .int y.1), (0, .int y.2)] [] I o) (qr : ∀ v I, Q (.inr v) I → o = (some (.int v), HH I)) (y : Int32 × Int32) (I : MI) (r : (Int32 × Int32) ⊕ (Int32)) (I1 : MI) (h : B_R_street_56 x1 y I = some (r, I1)) (hq : Q r I1) : At L X (d + 1) 275 56 [(112, .ref 207), (0, .int x1), (0, dV), (0, .int y.1), (0, .int y.2)] [] I o := by
  refine wf_ok z_R_street hcs ?_ ?_ _ _ _ _ _ ⟨rfl, trivial, trivial, trivial, trivial, trivial⟩ trivial (unm_refl _ _) ((congrFun (e_b_R_street_56 (L := L) (X := X) F_R_isIn F_R_isOut F_R_isStreet x1 y) I).trans h)
  · intro pc ls st I2 h1 h2 h3 h
    rcases mC_ok h with ⟨hb, h⟩ | ⟨_, h⟩
    · have e := Nat.eq_of_beq_eq_true hb
      subst e
      obtain ⟨hst, h⟩ := mN_ok h
      subst hst
      obtain ⟨n2, h⟩ := gD_ok h
      obtain ⟨a3, n3, h⟩ := gI_ok h
      obtain ⟨a4, n4, h⟩ := gI_ok h
      refine at_leaf (ls2 := [(112, .ref 207), (0, .int x1), (0, dV), (0, .int a3), (0, .int a4)]) h3.1 ⟨Or.inr ⟨_, (h3.2 0 rfl).trans rfl⟩, Or.inr ⟨_, (h3.2 1 rfl).trans rfl⟩, Or.inl ⟨rfl, n2⟩, Or.inr n3, Or.inr n4, trivial⟩ ?_
      cases h; exact qb _ _ hq
    cases h
  · intro v I2 _ h
    split at h
    · cases h; exact qr _ _ hq
    · cases h
def K_R_street_56 (x1 : Int32) (x3 : Int32) (x4 : Int32) : M (Int32) :=
  lp (B_R_street_56 x1) FU (x3, x4)
theorem s_R_street_56 {d : Nat} (hcs : AllS L X d (cs_R_street F_R_isIn F_R_isOut F_R_isStreet)) (x1 : Int32) (x3 : Int32) (x4 : Int32) {o : Option Value × PH} {Q : (Int32) → MI → Prop} (q0 : ∀ v I, Q v I → o = (some (.int v), HH I)) (I : MI) (r : Int32) (I1 : MI) (h : K_R_street_56 x1 x3 x4 I = some (r, I1)) (hq : Q r I1) : At L X (d + 1) 275 56 [(112, .ref 207), (0, .int x1), (0, dV), (0, .int x3), (0, .int x4)] [] I o := by
  unfold K_R_street_56 at h
  have w0 := fun w => at_lp (body := B_R_street_56 x1) (P := (fun (y : Int32 × Int32) I => At L X (d + 1) 275 56 [(112, .ref 207), (0, .int x1), (0, dV), (0, .int y.1), (0, .int y.2)] [] I o)) (Q := (fun (e : Int32) I => Q e I)) w FU (x3, x4) I r I1 h hq
  refine w0 ?_
  intro y I r I1 h hq
  exact b_R_street_56 hcs x1 (Q := SQ (fun (y : Int32 × Int32) I => At L X (d + 1) 275 56 [(112, .ref 207), (0, .int x1), (0, dV), (0, .int y.1), (0, .int y.2)] [] I o) (fun (e : Int32) I => Q e I)) (fun _ _ w => w) q0 y I r I1 h hq
def F_R_street (x1 : Int32) (x2 : Int32) : M (Int32) :=
  bn (wr 207 0 (0 : Int32)) fun _ =>
  bn (F_R_isStreet x1) fun v1 =>
  (if v1 = 0 then
    rt (-1 : Int32)
  else
    bn (F_R_isIn x2 (0 : Int32) (2 : Int32)) fun v2 =>
    (if v2 = 0 then
      rt (-1 : Int32)
    else
      (if x2 = 0 then
        bn (ld 95 208 ((7 : Int32) + x1)) fun v4 =>
        rt v4
      else
        (if x2 = (2 : Int32) then
          bn (ld 20 228 x1) fun v3 =>
          rt v3
        else
          K_R_street_56 x1 (0 : Int32) (0 : Int32)))))
set_option maxRecDepth 4000 in
theorem e_s_R_street_0 (f_R_isIn : Int32 → Int32 → Int32 → M Int32) (f_R_isOut : Int32 → M Int32) (f_R_isStreet : Int32 → M Int32) (k_56 : Int32 → Int32 → Int32 → M (Int32)) (x1 : Int32) (x2 : Int32) : wf (β := Int32) L X q_R_street 1 (cs_R_street f_R_isIn f_R_isOut f_R_isStreet) [3, 4] [56] (fun pc ls st => mC (Nat.beq pc 56) (mN st <| gD ls 2 <| gI ls 3 fun a3 => gI ls 4 fun a4 => k_56 x1 a3 a4) (fl)) (fun v => match v with | some (_, .int x) => rt x | _ => fl) 67 0 [(112, .ref 207), (0, .int x1), (0, .int x2), (0, dV), (0, dV)] [] = (bn (wr 207 0 (0 : Int32)) fun _ =>
  bn (f_R_isStreet x1) fun v1 =>
  (if v1 = 0 then
    rt (-1 : Int32)
  else
    bn (f_R_isIn x2 (0 : Int32) (2 : Int32)) fun v2 =>
    (if v2 = 0 then
      rt (-1 : Int32)
    else
      (if x2 = 0 then
        bn (ld 95 208 ((7 : Int32) + x1)) fun v4 =>
        rt v4
      else
        (if x2 = (2 : Int32) then
          bn (ld 20 228 x1) fun v3 =>
          rt v3
        else
          k_56 x1 (0 : Int32) (0 : Int32)))))) := rfl
theorem s_R_street_0 {d : Nat} (hcs : AllS L X d (cs_R_street F_R_isIn F_R_isOut F_R_isStreet)) (x1 : Int32) (x2 : Int32) {o : Option Value × PH} {Q : (Int32) → MI → Prop} (q0 : ∀ v I, Q v I → o = (some (.int v), HH I)) (I : MI) (r : Int32) (I1 : MI) (h : F_R_street x1 x2 I = some (r, I1)) (hq : Q r I1) : At L X (d + 1) 275 0 [(112, .ref 207), (0, .int x1), (0, .int x2), (0, dV), (0, dV)] [] I o := by
  refine wf_ok z_R_street hcs ?_ ?_ _ _ _ _ _ ⟨rfl, trivial, trivial, trivial, trivial, trivial⟩ trivial (unm_refl _ _) ((congrFun (e_s_R_street_0 (L := L) (X := X) F_R_isIn F_R_isOut F_R_isStreet K_R_street_56 x1 x2) I).trans h)
  · intro pc ls st I2 h1 h2 h3 h
    rcases mC_ok h with ⟨hb, h⟩ | ⟨_, h⟩
    · have e := Nat.eq_of_beq_eq_true hb
      subst e
      obtain ⟨hst, h⟩ := mN_ok h
      subst hst
      obtain ⟨n2, h⟩ := gD_ok h
      obtain ⟨a3, n3, h⟩ := gI_ok h
      obtain ⟨a4, n4, h⟩ := gI_ok h
      refine at_leaf (ls2 := [(112, .ref 207), (0, .int x1), (0, dV), (0, .int a3), (0, .int a4)]) h3.1 ⟨Or.inr ⟨_, (h3.2 0 rfl).trans rfl⟩, Or.inr ⟨_, (h3.2 1 rfl).trans rfl⟩, Or.inl ⟨rfl, n2⟩, Or.inr n3, Or.inr n4, trivial⟩ ?_
      exact s_R_street_56 hcs x1 a3 a4 q0 _ _ _ h hq
    cases h
  · intro v I2 _ h
    split at h
    · cases h; exact q0 _ _ hq
    · cases h
theorem w_R_street {d : Nat} (hcs : AllS L X d (cs_R_street F_R_isIn F_R_isOut F_R_isStreet)) : Snd L X (d + 1) 275 3 (W_R_street F_R_street) := by
  refine ⟨_, z_R_street, rfl, fun β args k I r hty hlen h => ?_⟩
  unfold W_R_street at h
  split at h
  · rename_i t0 a0 u1 a1 u2 a2
    obtain ⟨hb0, h⟩ := mB_ok h
    have e0 := Nat.eq_of_beq_eq_true hb0
    have g0 : okB 112 a0 = true := e0 ▸ hty.1
    have e20 := one_112 g0
    subst e20
    obtain ⟨v, I1, h1, h2⟩ := bn_some h
    refine ⟨gf_obj (c := 12) (by decide) g0, rfl, some (0, .int v), I1, trivial, ?_, h2⟩
    exact s_R_street_0 hcs a1 a2  (Q := fun w I => w = v ∧ I = I1) (fun w I q => by obtain ⟨rfl, rfl⟩ := q; rfl) I v I1 h1 ⟨rfl, rfl⟩
  · cases h
theorem S_R_street {d : Nat} (hd : 2 ≤ d) : Snd L X d 275 3 (W_R_street F_R_street) := by
  obtain ⟨e, rfl⟩ : ∃ e, d = e + 1 := ⟨d - 1, by omega⟩
  exact w_R_street ⟨S_R_isIn (by omega), S_R_isOut (by omega), S_R_isStreet (by omega), trivial⟩
set_option maxRecDepth 100000 in
theorem z_R_swingsOf : pT[299]? = some (q_R_swingsOf, 3, 7, 1, 12) := rfl
def W_R_swingsOf (F : Int32 → Int32 → M Int32) : CSem := fun _ args k => match args with
  | [(t0, .ref a0), (_, .int a1), (_, .int a2)] => mB (Nat.beq t0 112) <| bn (F a1 a2) fun v => k (some (0, .int v))
  | _ => fl
def cs_R_swingsOf (f_R_has : Int32 → Int32 → M Int32) : List (Nat × Nat × CSem) := [(286, 3, W_R_has f_R_has)]
def B_R_swingsOf_35 (x1 : Int32) (x2 : Int32) (x3 : Int32) (x4 : Int32) (y : Int32 × Int32) : M ((Int32 × Int32) ⊕ ((Int32))) :=
  bn (rd 207 57) fun v1 =>
  (if y.2 < v1 then
    bn (F_R_has x4 y.2) fun v2 =>
    (if v2 = 0 then
      rt (.inl (y.1, (y.2 + (1 : Int32))))
    else
      bn (ld 6 241 y.2) fun v3 =>
      rt (.inl ((y.1 + v3), (y.2 + (1 : Int32)))))
  else
    rt (.inr y.1))
set_option maxRecDepth 4000 in
theorem e_b_R_swingsOf_35 (f_R_has : Int32 → Int32 → M Int32) (x1 : Int32) (x2 : Int32) (x3 : Int32) (x4 : Int32) (y : Int32 × Int32) : wf (β := (Int32 × Int32) ⊕ ((Int32))) L X q_R_swingsOf 1 (cs_R_swingsOf f_R_has) [5, 6] [5, 35, 73] (fun pc ls st => mC (Nat.beq pc 35) (mN st <| gI ls 5 fun a5 => gI ls 6 fun a6 => rt (.inl (a5, a6))) (mC (Nat.beq pc 73) (mN st <| gI ls 5 fun a5 => gD ls 6 <| rt (.inr a5)) (fl))) (fun _ => fl) 62 35 [(112, .ref 207), (0, .int x1), (0, .int x2), (0, .int x3), (0, .int x4), (0, .int y.1), (0, .int y.2)] [] = (bn (rd 207 57) fun v1 =>
  (if y.2 < v1 then
    bn (f_R_has x4 y.2) fun v2 =>
    (if v2 = 0 then
      rt (.inl (y.1, (y.2 + (1 : Int32))))
    else
      bn (ld 6 241 y.2) fun v3 =>
      rt (.inl ((y.1 + v3), (y.2 + (1 : Int32)))))
  else
    rt (.inr y.1))) := rfl
theorem b_R_swingsOf_35 {d : Nat} (hcs : AllS L X d (cs_R_swingsOf F_R_has)) (x1 : Int32) (x2 : Int32) (x3 : Int32) (x4 : Int32) {o : Option Value × PH} {Q : ((Int32 × Int32) ⊕ ((Int32))) → MI → Prop} (qb : ∀ y I, Q (.inl y) I → At L X (d + 1) 299 35 [(112, .ref 207), (0, .int x1), (0, .int x2), (0, .int x3), (0, .int x4), (0, .int y.1), (0, .int y.2)] [] I o) (qe73 : ∀ y I, Q (.inr y) I → At L X (d + 1) 299 73 [(112, .ref 207), (0, .int x1), (0, .int x2), (0, .int x3), (0, .int x4), (0, .int y), (0, dV)] [] I o) (y : Int32 × Int32) (I : MI) (r : (Int32 × Int32) ⊕ ((Int32))) (I1 : MI) (h : B_R_swingsOf_35 x1 x2 x3 x4 y I = some (r, I1)) (hq : Q r I1) : At L X (d + 1) 299 35 [(112, .ref 207), (0, .int x1), (0, .int x2), (0, .int x3), (0, .int x4), (0, .int y.1), (0, .int y.2)] [] I o := by
  refine wf_ok z_R_swingsOf hcs ?_ ?_ _ _ _ _ _ ⟨rfl, trivial, trivial, trivial, trivial, trivial, trivial, trivial⟩ trivial (unm_refl _ _) ((congrFun (e_b_R_swingsOf_35 (L := L) (X := X) F_R_has x1 x2 x3 x4 y) I).trans h)
  · intro pc ls st I2 h1 h2 h3 h
    rcases mC_ok h with ⟨hb, h⟩ | ⟨_, h⟩
    · have e := Nat.eq_of_beq_eq_true hb
      subst e
      obtain ⟨hst, h⟩ := mN_ok h
      subst hst
      obtain ⟨a5, n5, h⟩ := gI_ok h
      obtain ⟨a6, n6, h⟩ := gI_ok h
      refine at_leaf (ls2 := [(112, .ref 207), (0, .int x1), (0, .int x2), (0, .int x3), (0, .int x4), (0, .int a5), (0, .int a6)]) h3.1 ⟨Or.inr ⟨_, (h3.2 0 rfl).trans rfl⟩, Or.inr ⟨_, (h3.2 1 rfl).trans rfl⟩, Or.inr ⟨_, (h3.2 2 rfl).trans rfl⟩, Or.inr ⟨_, (h3.2 3 rfl).trans rfl⟩, Or.inr ⟨_, (h3.2 4 rfl).trans rfl⟩, Or.inr n5, Or.inr n6, trivial⟩ ?_
      cases h; exact qb _ _ hq
    rcases mC_ok h with ⟨hb, h⟩ | ⟨_, h⟩
    · have e := Nat.eq_of_beq_eq_true hb
      subst e
      obtain ⟨hst, h⟩ := mN_ok h
      subst hst
      obtain ⟨a5, n5, h⟩ := gI_ok h
      obtain ⟨n6, h⟩ := gD_ok h
      refine at_leaf (ls2 := [(112, .ref 207), (0, .int x1), (0, .int x2), (0, .int x3), (0, .int x4), (0, .int a5), (0, dV)]) h3.1 ⟨Or.inr ⟨_, (h3.2 0 rfl).trans rfl⟩, Or.inr ⟨_, (h3.2 1 rfl).trans rfl⟩, Or.inr ⟨_, (h3.2 2 rfl).trans rfl⟩, Or.inr ⟨_, (h3.2 3 rfl).trans rfl⟩, Or.inr ⟨_, (h3.2 4 rfl).trans rfl⟩, Or.inr n5, Or.inl ⟨rfl, n6⟩, trivial⟩ ?_
      cases h; exact qe73 _ _ hq
    cases h
  · intro v I2 _ h
    cases h
def K_R_swingsOf_73 (x1 : Int32) (x2 : Int32) (x3 : Int32) (x4 : Int32) (x5 : Int32) : M ((Int32 × Int32) ⊕ (Int32)) :=
  (if x5 < x2 then
    bn (ld 6 241 x1) fun v1 =>
    (if (x5 + v1) < x2 then
      rt (.inl (x3, (x4 + (1 : Int32))))
    else
      rt (.inl ((x3 + (1 : Int32)), (x4 + (1 : Int32)))))
  else
    rt (.inl (x3, (x4 + (1 : Int32)))))
set_option maxRecDepth 4000 in
theorem e_s_R_swingsOf_73 (f_R_has : Int32 → Int32 → M Int32) (x1 : Int32) (x2 : Int32) (x3 : Int32) (x4 : Int32) (x5 : Int32) : wf (β := (Int32 × Int32) ⊕ (Int32)) L X q_R_swingsOf 1 (cs_R_swingsOf f_R_has) [3, 4] [5, 35, 73] (fun pc ls st => mC (Nat.beq pc 5) (mN st <| gI ls 3 fun a3 => gI ls 4 fun a4 => gD ls 5 <| gD ls 6 <| rt (.inl (a3, a4))) (fl)) (fun v => match v with | some (_, .int x) => rt (.inr x) | _ => fl) 62 73 [(112, .ref 207), (0, .int x1), (0, .int x2), (0, .int x3), (0, .int x4), (0, .int x5), (0, dV)] [] = ((if x5 < x2 then
    bn (ld 6 241 x1) fun v1 =>
    (if (x5 + v1) < x2 then
      rt (.inl (x3, (x4 + (1 : Int32))))
    else
      rt (.inl ((x3 + (1 : Int32)), (x4 + (1 : Int32)))))
  else
    rt (.inl (x3, (x4 + (1 : Int32)))))) := rfl
theorem s_R_swingsOf_73 {d : Nat} (hcs : AllS L X d (cs_R_swingsOf F_R_has)) (x1 : Int32) (x2 : Int32) (x3 : Int32) (x4 : Int32) (x5 : Int32) {o : Option Value × PH} {Q : ((Int32 × Int32) ⊕ (Int32)) → MI → Prop} (qb : ∀ y I, Q (.inl y) I → At L X (d + 1) 299 5 [(112, .ref 207), (0, .int x1), (0, .int x2), (0, .int y.1), (0, .int y.2), (0, dV), (0, dV)] [] I o) (qr : ∀ v I, Q (.inr v) I → o = (some (.int v), HH I)) (I : MI) (r : (Int32 × Int32) ⊕ (Int32)) (I1 : MI) (h : K_R_swingsOf_73 x1 x2 x3 x4 x5 I = some (r, I1)) (hq : Q r I1) : At L X (d + 1) 299 73 [(112, .ref 207), (0, .int x1), (0, .int x2), (0, .int x3), (0, .int x4), (0, .int x5), (0, dV)] [] I o := by
  refine wf_ok z_R_swingsOf hcs ?_ ?_ _ _ _ _ _ ⟨rfl, trivial, trivial, trivial, trivial, trivial, trivial, trivial⟩ trivial (unm_refl _ _) ((congrFun (e_s_R_swingsOf_73 (L := L) (X := X) F_R_has x1 x2 x3 x4 x5) I).trans h)
  · intro pc ls st I2 h1 h2 h3 h
    rcases mC_ok h with ⟨hb, h⟩ | ⟨_, h⟩
    · have e := Nat.eq_of_beq_eq_true hb
      subst e
      obtain ⟨hst, h⟩ := mN_ok h
      subst hst
      obtain ⟨a3, n3, h⟩ := gI_ok h
      obtain ⟨a4, n4, h⟩ := gI_ok h
      obtain ⟨n5, h⟩ := gD_ok h
      obtain ⟨n6, h⟩ := gD_ok h
      refine at_leaf (ls2 := [(112, .ref 207), (0, .int x1), (0, .int x2), (0, .int a3), (0, .int a4), (0, dV), (0, dV)]) h3.1 ⟨Or.inr ⟨_, (h3.2 0 rfl).trans rfl⟩, Or.inr ⟨_, (h3.2 1 rfl).trans rfl⟩, Or.inr ⟨_, (h3.2 2 rfl).trans rfl⟩, Or.inr n3, Or.inr n4, Or.inl ⟨rfl, n5⟩, Or.inl ⟨rfl, n6⟩, trivial⟩ ?_
      cases h; exact qb _ _ hq
    cases h
  · intro v I2 _ h
    split at h
    · cases h; exact qr _ _ hq
    · cases h
def K_R_swingsOf_35 (x1 : Int32) (x2 : Int32) (x3 : Int32) (x4 : Int32) (x5 : Int32) (x6 : Int32) : M ((Int32 × Int32) ⊕ (Int32)) :=
  bn (lp (B_R_swingsOf_35 x1 x2 x3 x4) FU (x5, x6)) fun e => K_R_swingsOf_73 x1 x2 x3 x4 e
theorem s_R_swingsOf_35 {d : Nat} (hcs : AllS L X d (cs_R_swingsOf F_R_has)) (x1 : Int32) (x2 : Int32) (x3 : Int32) (x4 : Int32) (x5 : Int32) (x6 : Int32) {o : Option Value × PH} {Q : ((Int32 × Int32) ⊕ (Int32)) → MI → Prop} (qb : ∀ y I, Q (.inl y) I → At L X (d + 1) 299 5 [(112, .ref 207), (0, .int x1), (0, .int x2), (0, .int y.1), (0, .int y.2), (0, dV), (0, dV)] [] I o) (qr : ∀ v I, Q (.inr v) I → o = (some (.int v), HH I)) (I : MI) (r : (Int32 × Int32) ⊕ (Int32)) (I1 : MI) (h : K_R_swingsOf_35 x1 x2 x3 x4 x5 x6 I = some (r, I1)) (hq : Q r I1) : At L X (d + 1) 299 35 [(112, .ref 207), (0, .int x1), (0, .int x2), (0, .int x3), (0, .int x4), (0, .int x5), (0, .int x6)] [] I o := by
  unfold K_R_swingsOf_35 at h
  obtain ⟨e, I2, h1, h2⟩ := bn_some h
  have w0 := fun w => at_lp (body := B_R_swingsOf_35 x1 x2 x3 x4) (P := (fun (y : Int32 × Int32) I => At L X (d + 1) 299 35 [(112, .ref 207), (0, .int x1), (0, .int x2), (0, .int x3), (0, .int x4), (0, .int y.1), (0, .int y.2)] [] I o)) (Q := (fun (e : (Int32)) I => (K_R_swingsOf_73 x1 x2 x3 x4 e) I = some (r, I1))) w FU (x5, x6) I e I2 h1 h2
  refine w0 ?_
  intro y I r2 I3 h hq2
  exact b_R_swingsOf_35 hcs x1 x2 x3 x4 (Q := SQ (fun (y : Int32 × Int32) I => At L X (d + 1) 299 35 [(112, .ref 207), (0, .int x1), (0, .int x2), (0, .int x3), (0, .int x4), (0, .int y.1), (0, .int y.2)] [] I o) (fun (e : (Int32)) I => (K_R_swingsOf_73 x1 x2 x3 x4 e) I = some (r, I1))) (fun _ _ w => w) (fun y I w => s_R_swingsOf_73 hcs x1 x2 x3 x4 y qb qr _ _ _ w hq) y I r2 I3 h hq2
def B_R_swingsOf_5 (x1 : Int32) (x2 : Int32) (y : Int32 × Int32) : M ((Int32 × Int32) ⊕ (Int32)) :=
  bn (rd 207 57) fun v1 =>
  (if y.2 < ((1 : Int32) <<< (v1 &&& 31)) then
    bn (F_R_has y.2 x1) fun v2 =>
    (if v2 = 0 then
      K_R_swingsOf_35 x1 x2 y.1 y.2 (0 : Int32) (0 : Int32)
    else
      rt (.inl (y.1, (y.2 + (1 : Int32)))))
  else
    rt (.inr y.1))
set_option maxRecDepth 4000 in
theorem e_b_R_swingsOf_5 (f_R_has : Int32 → Int32 → M Int32) (k_35 : Int32 → Int32 → Int32 → Int32 → Int32 → Int32 → M ((Int32 × Int32) ⊕ (Int32))) (x1 : Int32) (x2 : Int32) (y : Int32 × Int32) : wf (β := (Int32 × Int32) ⊕ (Int32)) L X q_R_swingsOf 1 (cs_R_swingsOf f_R_has) [4, 5, 6] [5, 35, 73] (fun pc ls st => mC (Nat.beq pc 5) (mN st <| gI ls 4 fun a4 => gD ls 5 <| gD ls 6 <| rt (.inl (y.1, a4))) (mC (Nat.beq pc 35) (mN st <| gI ls 4 fun a4 => gI ls 5 fun a5 => gI ls 6 fun a6 => k_35 x1 x2 y.1 a4 a5 a6) (fl))) (fun v => match v with | some (_, .int x) => rt (.inr x) | _ => fl) 62 5 [(112, .ref 207), (0, .int x1), (0, .int x2), (0, .int y.1), (0, .int y.2), (0, dV), (0, dV)] [] = (bn (rd 207 57) fun v1 =>
  (if y.2 < ((1 : Int32) <<< (v1 &&& 31)) then
    bn (f_R_has y.2 x1) fun v2 =>
    (if v2 = 0 then
      k_35 x1 x2 y.1 y.2 (0 : Int32) (0 : Int32)
    else
      rt (.inl (y.1, (y.2 + (1 : Int32)))))
  else
    rt (.inr y.1))) := rfl
theorem b_R_swingsOf_5 {d : Nat} (hcs : AllS L X d (cs_R_swingsOf F_R_has)) (x1 : Int32) (x2 : Int32) {o : Option Value × PH} {Q : ((Int32 × Int32) ⊕ (Int32)) → MI → Prop} (qb : ∀ y I, Q (.inl y) I → At L X (d + 1) 299 5 [(112, .ref 207), (0, .int x1), (0, .int x2), (0, .int y.1), (0, .int y.2), (0, dV), (0, dV)] [] I o) (qr : ∀ v I, Q (.inr v) I → o = (some (.int v), HH I)) (y : Int32 × Int32) (I : MI) (r : (Int32 × Int32) ⊕ (Int32)) (I1 : MI) (h : B_R_swingsOf_5 x1 x2 y I = some (r, I1)) (hq : Q r I1) : At L X (d + 1) 299 5 [(112, .ref 207), (0, .int x1), (0, .int x2), (0, .int y.1), (0, .int y.2), (0, dV), (0, dV)] [] I o := by
  refine wf_ok z_R_swingsOf hcs ?_ ?_ _ _ _ _ _ ⟨rfl, trivial, trivial, trivial, trivial, trivial, trivial, trivial⟩ trivial (unm_refl _ _) ((congrFun (e_b_R_swingsOf_5 (L := L) (X := X) F_R_has K_R_swingsOf_35 x1 x2 y) I).trans h)
  · intro pc ls st I2 h1 h2 h3 h
    rcases mC_ok h with ⟨hb, h⟩ | ⟨_, h⟩
    · have e := Nat.eq_of_beq_eq_true hb
      subst e
      obtain ⟨hst, h⟩ := mN_ok h
      subst hst
      obtain ⟨a4, n4, h⟩ := gI_ok h
      obtain ⟨n5, h⟩ := gD_ok h
      obtain ⟨n6, h⟩ := gD_ok h
      refine at_leaf (ls2 := [(112, .ref 207), (0, .int x1), (0, .int x2), (0, .int y.1), (0, .int a4), (0, dV), (0, dV)]) h3.1 ⟨Or.inr ⟨_, (h3.2 0 rfl).trans rfl⟩, Or.inr ⟨_, (h3.2 1 rfl).trans rfl⟩, Or.inr ⟨_, (h3.2 2 rfl).trans rfl⟩, Or.inr ⟨_, (h3.2 3 rfl).trans rfl⟩, Or.inr n4, Or.inl ⟨rfl, n5⟩, Or.inl ⟨rfl, n6⟩, trivial⟩ ?_
      cases h; exact qb _ _ hq
    rcases mC_ok h with ⟨hb, h⟩ | ⟨_, h⟩
    · have e := Nat.eq_of_beq_eq_true hb
      subst e
      obtain ⟨hst, h⟩ := mN_ok h
      subst hst
      obtain ⟨a4, n4, h⟩ := gI_ok h
      obtain ⟨a5, n5, h⟩ := gI_ok h
      obtain ⟨a6, n6, h⟩ := gI_ok h
      refine at_leaf (ls2 := [(112, .ref 207), (0, .int x1), (0, .int x2), (0, .int y.1), (0, .int a4), (0, .int a5), (0, .int a6)]) h3.1 ⟨Or.inr ⟨_, (h3.2 0 rfl).trans rfl⟩, Or.inr ⟨_, (h3.2 1 rfl).trans rfl⟩, Or.inr ⟨_, (h3.2 2 rfl).trans rfl⟩, Or.inr ⟨_, (h3.2 3 rfl).trans rfl⟩, Or.inr n4, Or.inr n5, Or.inr n6, trivial⟩ ?_
      exact s_R_swingsOf_35 hcs x1 x2 y.1 a4 a5 a6 qb qr _ _ _ h hq
    cases h
  · intro v I2 _ h
    split at h
    · cases h; exact qr _ _ hq
    · cases h
def K_R_swingsOf_5 (x1 : Int32) (x2 : Int32) (x3 : Int32) (x4 : Int32) : M (Int32) :=
  lp (B_R_swingsOf_5 x1 x2) FU (x3, x4)
theorem s_R_swingsOf_5 {d : Nat} (hcs : AllS L X d (cs_R_swingsOf F_R_has)) (x1 : Int32) (x2 : Int32) (x3 : Int32) (x4 : Int32) {o : Option Value × PH} {Q : (Int32) → MI → Prop} (q0 : ∀ v I, Q v I → o = (some (.int v), HH I)) (I : MI) (r : Int32) (I1 : MI) (h : K_R_swingsOf_5 x1 x2 x3 x4 I = some (r, I1)) (hq : Q r I1) : At L X (d + 1) 299 5 [(112, .ref 207), (0, .int x1), (0, .int x2), (0, .int x3), (0, .int x4), (0, dV), (0, dV)] [] I o := by
  unfold K_R_swingsOf_5 at h
  have w0 := fun w => at_lp (body := B_R_swingsOf_5 x1 x2) (P := (fun (y : Int32 × Int32) I => At L X (d + 1) 299 5 [(112, .ref 207), (0, .int x1), (0, .int x2), (0, .int y.1), (0, .int y.2), (0, dV), (0, dV)] [] I o)) (Q := (fun (e : Int32) I => Q e I)) w FU (x3, x4) I r I1 h hq
  refine w0 ?_
  intro y I r I1 h hq
  exact b_R_swingsOf_5 hcs x1 x2 (Q := SQ (fun (y : Int32 × Int32) I => At L X (d + 1) 299 5 [(112, .ref 207), (0, .int x1), (0, .int x2), (0, .int y.1), (0, .int y.2), (0, dV), (0, dV)] [] I o) (fun (e : Int32) I => Q e I)) (fun _ _ w => w) q0 y I r I1 h hq
def F_R_swingsOf (x1 : Int32) (x2 : Int32) : M (Int32) :=
  K_R_swingsOf_5 x1 x2 (0 : Int32) (0 : Int32)
set_option maxRecDepth 4000 in
theorem e_s_R_swingsOf_0 (f_R_has : Int32 → Int32 → M Int32) (k_5 : Int32 → Int32 → Int32 → Int32 → M (Int32)) (x1 : Int32) (x2 : Int32) : wf (β := Int32) L X q_R_swingsOf 1 (cs_R_swingsOf f_R_has) [3, 4] [5, 35, 73] (fun pc ls st => mC (Nat.beq pc 5) (mN st <| gI ls 3 fun a3 => gI ls 4 fun a4 => gD ls 5 <| gD ls 6 <| k_5 x1 x2 a3 a4) (fl)) (fun v => match v with | some (_, .int x) => rt x | _ => fl) 62 0 [(112, .ref 207), (0, .int x1), (0, .int x2), (0, dV), (0, dV), (0, dV), (0, dV)] [] = (k_5 x1 x2 (0 : Int32) (0 : Int32)) := rfl
theorem s_R_swingsOf_0 {d : Nat} (hcs : AllS L X d (cs_R_swingsOf F_R_has)) (x1 : Int32) (x2 : Int32) {o : Option Value × PH} {Q : (Int32) → MI → Prop} (q0 : ∀ v I, Q v I → o = (some (.int v), HH I)) (I : MI) (r : Int32) (I1 : MI) (h : F_R_swingsOf x1 x2 I = some (r, I1)) (hq : Q r I1) : At L X (d + 1) 299 0 [(112, .ref 207), (0, .int x1), (0, .int x2), (0, dV), (0, dV), (0, dV), (0, dV)] [] I o := by
  refine wf_ok z_R_swingsOf hcs ?_ ?_ _ _ _ _ _ ⟨rfl, trivial, trivial, trivial, trivial, trivial, trivial, trivial⟩ trivial (unm_refl _ _) ((congrFun (e_s_R_swingsOf_0 (L := L) (X := X) F_R_has K_R_swingsOf_5 x1 x2) I).trans h)
  · intro pc ls st I2 h1 h2 h3 h
    rcases mC_ok h with ⟨hb, h⟩ | ⟨_, h⟩
    · have e := Nat.eq_of_beq_eq_true hb
      subst e
      obtain ⟨hst, h⟩ := mN_ok h
      subst hst
      obtain ⟨a3, n3, h⟩ := gI_ok h
      obtain ⟨a4, n4, h⟩ := gI_ok h
      obtain ⟨n5, h⟩ := gD_ok h
      obtain ⟨n6, h⟩ := gD_ok h
      refine at_leaf (ls2 := [(112, .ref 207), (0, .int x1), (0, .int x2), (0, .int a3), (0, .int a4), (0, dV), (0, dV)]) h3.1 ⟨Or.inr ⟨_, (h3.2 0 rfl).trans rfl⟩, Or.inr ⟨_, (h3.2 1 rfl).trans rfl⟩, Or.inr ⟨_, (h3.2 2 rfl).trans rfl⟩, Or.inr n3, Or.inr n4, Or.inl ⟨rfl, n5⟩, Or.inl ⟨rfl, n6⟩, trivial⟩ ?_
      exact s_R_swingsOf_5 hcs x1 x2 a3 a4 q0 _ _ _ h hq
    cases h
  · intro v I2 _ h
    split at h
    · cases h; exact q0 _ _ hq
    · cases h
theorem w_R_swingsOf {d : Nat} (hcs : AllS L X d (cs_R_swingsOf F_R_has)) : Snd L X (d + 1) 299 3 (W_R_swingsOf F_R_swingsOf) := by
  refine ⟨_, z_R_swingsOf, rfl, fun β args k I r hty hlen h => ?_⟩
  unfold W_R_swingsOf at h
  split at h
  · rename_i t0 a0 u1 a1 u2 a2
    obtain ⟨hb0, h⟩ := mB_ok h
    have e0 := Nat.eq_of_beq_eq_true hb0
    have g0 : okB 112 a0 = true := e0 ▸ hty.1
    have e20 := one_112 g0
    subst e20
    obtain ⟨v, I1, h1, h2⟩ := bn_some h
    refine ⟨gf_obj (c := 12) (by decide) g0, rfl, some (0, .int v), I1, trivial, ?_, h2⟩
    exact s_R_swingsOf_0 hcs a1 a2  (Q := fun w I => w = v ∧ I = I1) (fun w I q => by obtain ⟨rfl, rfl⟩ := q; rfl) I v I1 h1 ⟨rfl, rfl⟩
  · cases h
theorem S_R_swingsOf {d : Nat} (hd : 2 ≤ d) : Snd L X d 299 3 (W_R_swingsOf F_R_swingsOf) := by
  obtain ⟨e, rfl⟩ : ∃ e, d = e + 1 := ⟨d - 1, by omega⟩
  exact w_R_swingsOf ⟨S_R_has (by omega), trivial⟩
set_option maxRecDepth 100000 in
theorem z_R_swings : pT[298]? = some (q_R_swings, 3, 5, 1, 12) := rfl
def W_R_swings (F : Int32 → Int32 → M Int32) : CSem := fun _ args k => match args with
  | [(t0, .ref a0), (_, .int a1), (_, .int a2)] => mB (Nat.beq t0 112) <| bn (F a1 a2) fun v => k (some (0, .int v))
  | _ => fl
def cs_R_swings (f_R_isIn : Int32 → Int32 → Int32 → M Int32) (f_R_swingsOf : Int32 → Int32 → M Int32) : List (Nat × Nat × CSem) := [(195, 4, W_R_isIn f_R_isIn), (299, 3, W_R_swingsOf f_R_swingsOf)]
def B_R_swings_51 (x2 : Int32) (y : Int32 × Int32) : M ((Int32 × Int32) ⊕ (Int32)) :=
  bn (rd 207 57) fun v1 =>
  (if y.2 < v1 then
    bn (F_R_swingsOf y.2 x2) fun v2 =>
    (if v2 = 0 then
      rt (.inl ((y.1 + (1 : Int32)), (y.2 + (1 : Int32))))
    else
      rt (.inl (y.1, (y.2 + (1 : Int32)))))
  else
    rt (.inr y.1))
set_option maxRecDepth 4000 in
theorem e_b_R_swings_51 (f_R_isIn : Int32 → Int32 → Int32 → M Int32) (f_R_swingsOf : Int32 → Int32 → M Int32) (x2 : Int32) (y : Int32 × Int32) : wf (β := (Int32 × Int32) ⊕ (Int32)) L X q_R_swings 1 (cs_R_swings f_R_isIn f_R_swingsOf) [3, 4] [51] (fun pc ls st => mC (Nat.beq pc 51) (mN st <| gD ls 1 <| gI ls 3 fun a3 => gI ls 4 fun a4 => rt (.inl (a3, a4))) (fl)) (fun v => match v with | some (_, .int x) => rt (.inr x) | _ => fl) 54 51 [(112, .ref 207), (0, dV), (0, .int x2), (0, .int y.1), (0, .int y.2)] [] = (bn (rd 207 57) fun v1 =>
  (if y.2 < v1 then
    bn (f_R_swingsOf y.2 x2) fun v2 =>
    (if v2 = 0 then
      rt (.inl ((y.1 + (1 : Int32)), (y.2 + (1 : Int32))))
    else
      rt (.inl (y.1, (y.2 + (1 : Int32)))))
  else
    rt (.inr y.1))) := rfl
theorem b_R_swings_51 {d : Nat} (hcs : AllS L X d (cs_R_swings F_R_isIn F_R_swingsOf)) (x2 : Int32) {o : Option Value × PH} {Q : ((Int32 × Int32) ⊕ (Int32)) → MI → Prop} (qb : ∀ y I, Q (.inl y) I → At L X (d + 1) 298 51 [(112, .ref 207), (0, dV), (0, .int x2), (0, .int y.1), (0, .int y.2)] [] I o) (qr : ∀ v I, Q (.inr v) I → o = (some (.int v), HH I)) (y : Int32 × Int32) (I : MI) (r : (Int32 × Int32) ⊕ (Int32)) (I1 : MI) (h : B_R_swings_51 x2 y I = some (r, I1)) (hq : Q r I1) : At L X (d + 1) 298 51 [(112, .ref 207), (0, dV), (0, .int x2), (0, .int y.1), (0, .int y.2)] [] I o := by
  refine wf_ok z_R_swings hcs ?_ ?_ _ _ _ _ _ ⟨rfl, trivial, trivial, trivial, trivial, trivial⟩ trivial (unm_refl _ _) ((congrFun (e_b_R_swings_51 (L := L) (X := X) F_R_isIn F_R_swingsOf x2 y) I).trans h)
  · intro pc ls st I2 h1 h2 h3 h
    rcases mC_ok h with ⟨hb, h⟩ | ⟨_, h⟩
    · have e := Nat.eq_of_beq_eq_true hb
      subst e
      obtain ⟨hst, h⟩ := mN_ok h
      subst hst
      obtain ⟨n1, h⟩ := gD_ok h
      obtain ⟨a3, n3, h⟩ := gI_ok h
      obtain ⟨a4, n4, h⟩ := gI_ok h
      refine at_leaf (ls2 := [(112, .ref 207), (0, dV), (0, .int x2), (0, .int a3), (0, .int a4)]) h3.1 ⟨Or.inr ⟨_, (h3.2 0 rfl).trans rfl⟩, Or.inl ⟨rfl, n1⟩, Or.inr ⟨_, (h3.2 2 rfl).trans rfl⟩, Or.inr n3, Or.inr n4, trivial⟩ ?_
      cases h; exact qb _ _ hq
    cases h
  · intro v I2 _ h
    split at h
    · cases h; exact qr _ _ hq
    · cases h
def K_R_swings_51 (x2 : Int32) (x3 : Int32) (x4 : Int32) : M (Int32) :=
  lp (B_R_swings_51 x2) FU (x3, x4)
theorem s_R_swings_51 {d : Nat} (hcs : AllS L X d (cs_R_swings F_R_isIn F_R_swingsOf)) (x2 : Int32) (x3 : Int32) (x4 : Int32) {o : Option Value × PH} {Q : (Int32) → MI → Prop} (q0 : ∀ v I, Q v I → o = (some (.int v), HH I)) (I : MI) (r : Int32) (I1 : MI) (h : K_R_swings_51 x2 x3 x4 I = some (r, I1)) (hq : Q r I1) : At L X (d + 1) 298 51 [(112, .ref 207), (0, dV), (0, .int x2), (0, .int x3), (0, .int x4)] [] I o := by
  unfold K_R_swings_51 at h
  have w0 := fun w => at_lp (body := B_R_swings_51 x2) (P := (fun (y : Int32 × Int32) I => At L X (d + 1) 298 51 [(112, .ref 207), (0, dV), (0, .int x2), (0, .int y.1), (0, .int y.2)] [] I o)) (Q := (fun (e : Int32) I => Q e I)) w FU (x3, x4) I r I1 h hq
  refine w0 ?_
  intro y I r I1 h hq
  exact b_R_swings_51 hcs x2 (Q := SQ (fun (y : Int32 × Int32) I => At L X (d + 1) 298 51 [(112, .ref 207), (0, dV), (0, .int x2), (0, .int y.1), (0, .int y.2)] [] I o) (fun (e : Int32) I => Q e I)) (fun _ _ w => w) q0 y I r I1 h hq
def F_R_swings (x1 : Int32) (x2 : Int32) : M (Int32) :=
  bn (wr 207 0 (0 : Int32)) fun _ =>
  bn (rd 207 57) fun v1 =>
  bn (F_R_isIn x1 (-1 : Int32) (v1 - (1 : Int32))) fun v2 =>
  (if v2 = 0 then
    rt (-1 : Int32)
  else
    bn (F_R_isIn x2 (1 : Int32) (180 : Int32)) fun v3 =>
    (if v3 = 0 then
      rt (-1 : Int32)
    else
      (if x1 = (-1 : Int32) then
        K_R_swings_51 x2 (0 : Int32) (0 : Int32)
      else
        bn (F_R_swingsOf x1 x2) fun v4 =>
        rt v4)))
set_option maxRecDepth 4000 in
theorem e_s_R_swings_0 (f_R_isIn : Int32 → Int32 → Int32 → M Int32) (f_R_swingsOf : Int32 → Int32 → M Int32) (k_51 : Int32 → Int32 → Int32 → M (Int32)) (x1 : Int32) (x2 : Int32) : wf (β := Int32) L X q_R_swings 1 (cs_R_swings f_R_isIn f_R_swingsOf) [3, 4] [51] (fun pc ls st => mC (Nat.beq pc 51) (mN st <| gD ls 1 <| gI ls 3 fun a3 => gI ls 4 fun a4 => k_51 x2 a3 a4) (fl)) (fun v => match v with | some (_, .int x) => rt x | _ => fl) 54 0 [(112, .ref 207), (0, .int x1), (0, .int x2), (0, dV), (0, dV)] [] = (bn (wr 207 0 (0 : Int32)) fun _ =>
  bn (rd 207 57) fun v1 =>
  bn (f_R_isIn x1 (-1 : Int32) (v1 - (1 : Int32))) fun v2 =>
  (if v2 = 0 then
    rt (-1 : Int32)
  else
    bn (f_R_isIn x2 (1 : Int32) (180 : Int32)) fun v3 =>
    (if v3 = 0 then
      rt (-1 : Int32)
    else
      (if x1 = (-1 : Int32) then
        k_51 x2 (0 : Int32) (0 : Int32)
      else
        bn (f_R_swingsOf x1 x2) fun v4 =>
        rt v4)))) := rfl
theorem s_R_swings_0 {d : Nat} (hcs : AllS L X d (cs_R_swings F_R_isIn F_R_swingsOf)) (x1 : Int32) (x2 : Int32) {o : Option Value × PH} {Q : (Int32) → MI → Prop} (q0 : ∀ v I, Q v I → o = (some (.int v), HH I)) (I : MI) (r : Int32) (I1 : MI) (h : F_R_swings x1 x2 I = some (r, I1)) (hq : Q r I1) : At L X (d + 1) 298 0 [(112, .ref 207), (0, .int x1), (0, .int x2), (0, dV), (0, dV)] [] I o := by
  refine wf_ok z_R_swings hcs ?_ ?_ _ _ _ _ _ ⟨rfl, trivial, trivial, trivial, trivial, trivial⟩ trivial (unm_refl _ _) ((congrFun (e_s_R_swings_0 (L := L) (X := X) F_R_isIn F_R_swingsOf K_R_swings_51 x1 x2) I).trans h)
  · intro pc ls st I2 h1 h2 h3 h
    rcases mC_ok h with ⟨hb, h⟩ | ⟨_, h⟩
    · have e := Nat.eq_of_beq_eq_true hb
      subst e
      obtain ⟨hst, h⟩ := mN_ok h
      subst hst
      obtain ⟨n1, h⟩ := gD_ok h
      obtain ⟨a3, n3, h⟩ := gI_ok h
      obtain ⟨a4, n4, h⟩ := gI_ok h
      refine at_leaf (ls2 := [(112, .ref 207), (0, dV), (0, .int x2), (0, .int a3), (0, .int a4)]) h3.1 ⟨Or.inr ⟨_, (h3.2 0 rfl).trans rfl⟩, Or.inl ⟨rfl, n1⟩, Or.inr ⟨_, (h3.2 2 rfl).trans rfl⟩, Or.inr n3, Or.inr n4, trivial⟩ ?_
      exact s_R_swings_51 hcs x2 a3 a4 q0 _ _ _ h hq
    cases h
  · intro v I2 _ h
    split at h
    · cases h; exact q0 _ _ hq
    · cases h
theorem w_R_swings {d : Nat} (hcs : AllS L X d (cs_R_swings F_R_isIn F_R_swingsOf)) : Snd L X (d + 1) 298 3 (W_R_swings F_R_swings) := by
  refine ⟨_, z_R_swings, rfl, fun β args k I r hty hlen h => ?_⟩
  unfold W_R_swings at h
  split at h
  · rename_i t0 a0 u1 a1 u2 a2
    obtain ⟨hb0, h⟩ := mB_ok h
    have e0 := Nat.eq_of_beq_eq_true hb0
    have g0 : okB 112 a0 = true := e0 ▸ hty.1
    have e20 := one_112 g0
    subst e20
    obtain ⟨v, I1, h1, h2⟩ := bn_some h
    refine ⟨gf_obj (c := 12) (by decide) g0, rfl, some (0, .int v), I1, trivial, ?_, h2⟩
    exact s_R_swings_0 hcs a1 a2  (Q := fun w I => w = v ∧ I = I1) (fun w I q => by obtain ⟨rfl, rfl⟩ := q; rfl) I v I1 h1 ⟨rfl, rfl⟩
  · cases h
theorem S_R_swings {d : Nat} (hd : 3 ≤ d) : Snd L X d 298 3 (W_R_swings F_R_swings) := by
  obtain ⟨e, rfl⟩ : ∃ e, d = e + 1 := ⟨d - 1, by omega⟩
  exact w_R_swings ⟨S_R_isIn (by omega), S_R_swingsOf (by omega), trivial⟩
set_option maxRecDepth 100000 in
theorem z_R_errs : pT[215]? = some (q_R_errs, 2, 2, 1, 12) := rfl
def W_R_errs (F : Int32 → M Int32) : CSem := fun _ args k => match args with
  | [(t0, .ref a0), (_, .int a1)] => mB (Nat.beq t0 112) <| bn (F a1) fun v => k (some (0, .int v))
  | _ => fl
def cs_R_errs : List (Nat × Nat × CSem) := []
def F_R_errs (x1 : Int32) : M (Int32) :=
  bn (wr 207 32 x1) fun _ =>
  bn (rd 207 16) fun v1 =>
  bn (wr 207 33 v1) fun _ =>
  rt (-1 : Int32)
set_option maxRecDepth 4000 in
theorem e_s_R_errs_0 (x1 : Int32) : wf (β := Int32) L X q_R_errs 1 cs_R_errs [] [] (fun _ _ _ => fl) (fun v => match v with | some (_, .int x) => rt x | _ => fl) 14 0 [(112, .ref 207), (0, .int x1)] [] = (bn (wr 207 32 x1) fun _ =>
  bn (rd 207 16) fun v1 =>
  bn (wr 207 33 v1) fun _ =>
  rt (-1 : Int32)) := rfl
theorem s_R_errs_0 {d : Nat} (hcs : AllS L X d cs_R_errs) (x1 : Int32) {o : Option Value × PH} {Q : (Int32) → MI → Prop} (q0 : ∀ v I, Q v I → o = (some (.int v), HH I)) (I : MI) (r : Int32) (I1 : MI) (h : F_R_errs x1 I = some (r, I1)) (hq : Q r I1) : At L X (d + 1) 215 0 [(112, .ref 207), (0, .int x1)] [] I o := by
  refine wf_ok z_R_errs hcs ?_ ?_ _ _ _ _ _ ⟨rfl, trivial, trivial⟩ trivial (unm_refl _ _) ((congrFun (e_s_R_errs_0 (L := L) (X := X) x1) I).trans h)
  · intro pc ls st I2 h1 h2 h3 h
    cases h
  · intro v I2 _ h
    split at h
    · cases h; exact q0 _ _ hq
    · cases h
theorem w_R_errs {d : Nat} (hcs : AllS L X d cs_R_errs) : Snd L X (d + 1) 215 2 (W_R_errs F_R_errs) := by
  refine ⟨_, z_R_errs, rfl, fun β args k I r hty hlen h => ?_⟩
  unfold W_R_errs at h
  split at h
  · rename_i t0 a0 u1 a1
    obtain ⟨hb0, h⟩ := mB_ok h
    have e0 := Nat.eq_of_beq_eq_true hb0
    have g0 : okB 112 a0 = true := e0 ▸ hty.1
    have e20 := one_112 g0
    subst e20
    obtain ⟨v, I1, h1, h2⟩ := bn_some h
    refine ⟨gf_obj (c := 12) (by decide) g0, rfl, some (0, .int v), I1, trivial, ?_, h2⟩
    exact s_R_errs_0 hcs a1  (Q := fun w I => w = v ∧ I = I1) (fun w I q => by obtain ⟨rfl, rfl⟩ := q; rfl) I v I1 h1 ⟨rfl, rfl⟩
  · cases h
theorem S_R_errs {d : Nat} (hd : 1 ≤ d) : Snd L X d 215 2 (W_R_errs F_R_errs) := by
  obtain ⟨e, rfl⟩ : ∃ e, d = e + 1 := ⟨d - 1, by omega⟩
  exact w_R_errs trivial
set_option maxRecDepth 100000 in
theorem z_R_isWord : pT[214]? = some (q_R_isWord, 2, 2, 2, 12) := rfl
def W_R_isWord (F : Int32 → M Int32) : CSem := fun _ args k => match args with
  | [(t0, .ref a0), (_, .int a1)] => mB (Nat.beq t0 112) <| bn (F a1) fun v => k (some (0, .int v))
  | _ => fl
def cs_R_isWord : List (Nat × Nat × CSem) := []
def F_R_isWord (x1 : Int32) : M (Int32) :=
  bn (rd 207 17) fun v1 =>
  (if v1 = (2 : Int32) then
    bn (rd 207 18) fun v2 =>
    (if v2 = x1 then
      bn (gdZ (1 : Int32)) fun _ => rt (1 : Int32)
    else
      bn (gdZ (0 : Int32)) fun _ => rt (0 : Int32))
  else
    bn (gdZ (0 : Int32)) fun _ => rt (0 : Int32))
set_option maxRecDepth 4000 in
theorem e_s_R_isWord_0 (x1 : Int32) : wf (β := Int32) L X q_R_isWord 2 cs_R_isWord [] [] (fun _ _ _ => fl) (fun v => match v with | some (_, .int x) => rt x | _ => fl) 17 0 [(112, .ref 207), (0, .int x1)] [] = (bn (rd 207 17) fun v1 =>
  (if v1 = (2 : Int32) then
    bn (rd 207 18) fun v2 =>
    (if v2 = x1 then
      bn (gdZ (1 : Int32)) fun _ => rt (1 : Int32)
    else
      bn (gdZ (0 : Int32)) fun _ => rt (0 : Int32))
  else
    bn (gdZ (0 : Int32)) fun _ => rt (0 : Int32))) := rfl
theorem s_R_isWord_0 {d : Nat} (hcs : AllS L X d cs_R_isWord) (x1 : Int32) {o : Option Value × PH} {Q : (Int32) → MI → Prop} (q0 : ∀ v I, Q v I → o = (some (.int v), HH I)) (I : MI) (r : Int32) (I1 : MI) (h : F_R_isWord x1 I = some (r, I1)) (hq : Q r I1) : At L X (d + 1) 214 0 [(112, .ref 207), (0, .int x1)] [] I o := by
  refine wf_ok z_R_isWord hcs ?_ ?_ _ _ _ _ _ ⟨rfl, trivial, trivial⟩ trivial (unm_refl _ _) ((congrFun (e_s_R_isWord_0 (L := L) (X := X) x1) I).trans h)
  · intro pc ls st I2 h1 h2 h3 h
    cases h
  · intro v I2 _ h
    split at h
    · cases h; exact q0 _ _ hq
    · cases h
theorem w_R_isWord {d : Nat} (hcs : AllS L X d cs_R_isWord) : Snd L X (d + 1) 214 2 (W_R_isWord F_R_isWord) := by
  refine ⟨_, z_R_isWord, rfl, fun β args k I r hty hlen h => ?_⟩
  unfold W_R_isWord at h
  split at h
  · rename_i t0 a0 u1 a1
    obtain ⟨hb0, h⟩ := mB_ok h
    have e0 := Nat.eq_of_beq_eq_true hb0
    have g0 : okB 112 a0 = true := e0 ▸ hty.1
    have e20 := one_112 g0
    subst e20
    obtain ⟨v, I1, h1, h2⟩ := bn_some h
    refine ⟨gf_obj (c := 12) (by decide) g0, rfl, some (0, .int v), I1, trivial, ?_, h2⟩
    exact s_R_isWord_0 hcs a1  (Q := fun w I => w = v ∧ I = I1) (fun w I q => by obtain ⟨rfl, rfl⟩ := q; rfl) I v I1 h1 ⟨rfl, rfl⟩
  · cases h
theorem S_R_isWord {d : Nat} (hd : 1 ≤ d) : Snd L X d 214 2 (W_R_isWord F_R_isWord) := by
  obtain ⟨e, rfl⟩ : ∃ e, d = e + 1 := ⟨d - 1, by omega⟩
  exact w_R_isWord trivial
set_option maxRecDepth 100000 in
theorem z_R_kindOfDeed : pT[223]? = some (q_R_kindOfDeed, 1, 1, 1, 12) := rfl
def W_R_kindOfDeed (F : M Int32) : CSem := fun _ args k => match args with
  | [(t0, .ref a0)] => mB (Nat.beq t0 112) <| bn (F) fun v => k (some (0, .int v))
  | _ => fl
def cs_R_kindOfDeed (f_R_isWord : Int32 → M Int32) : List (Nat × Nat × CSem) := [(214, 2, W_R_isWord f_R_isWord)]
def F_R_kindOfDeed : M (Int32) :=
  bn (F_R_isWord (22 : Int32)) fun v1 =>
  (if v1 = 0 then
    bn (F_R_isWord (23 : Int32)) fun v2 =>
    (if v2 = 0 then
      bn (F_R_isWord (24 : Int32)) fun v3 =>
      (if v3 = 0 then
        bn (F_R_isWord (9 : Int32)) fun v4 =>
        (if v4 = 0 then
          rt (-1 : Int32)
        else
          rt (3 : Int32))
      else
        rt (2 : Int32))
    else
      rt (1 : Int32))
  else
    rt (0 : Int32))
set_option maxRecDepth 4000 in
theorem e_s_R_kindOfDeed_0 (f_R_isWord : Int32 → M Int32) : wf (β := Int32) L X q_R_kindOfDeed 1 (cs_R_kindOfDeed f_R_isWord) [] [] (fun _ _ _ => fl) (fun v => match v with | some (_, .int x) => rt x | _ => fl) 31 0 [(112, .ref 207)] [] = (bn (f_R_isWord (22 : Int32)) fun v1 =>
  (if v1 = 0 then
    bn (f_R_isWord (23 : Int32)) fun v2 =>
    (if v2 = 0 then
      bn (f_R_isWord (24 : Int32)) fun v3 =>
      (if v3 = 0 then
        bn (f_R_isWord (9 : Int32)) fun v4 =>
        (if v4 = 0 then
          rt (-1 : Int32)
        else
          rt (3 : Int32))
      else
        rt (2 : Int32))
    else
      rt (1 : Int32))
  else
    rt (0 : Int32))) := rfl
theorem s_R_kindOfDeed_0 {d : Nat} (hcs : AllS L X d (cs_R_kindOfDeed F_R_isWord)) {o : Option Value × PH} {Q : (Int32) → MI → Prop} (q0 : ∀ v I, Q v I → o = (some (.int v), HH I)) (I : MI) (r : Int32) (I1 : MI) (h : F_R_kindOfDeed I = some (r, I1)) (hq : Q r I1) : At L X (d + 1) 223 0 [(112, .ref 207)] [] I o := by
  refine wf_ok z_R_kindOfDeed hcs ?_ ?_ _ _ _ _ _ ⟨rfl, trivial⟩ trivial (unm_refl _ _) ((congrFun (e_s_R_kindOfDeed_0 (L := L) (X := X) F_R_isWord) I).trans h)
  · intro pc ls st I2 h1 h2 h3 h
    cases h
  · intro v I2 _ h
    split at h
    · cases h; exact q0 _ _ hq
    · cases h
theorem w_R_kindOfDeed {d : Nat} (hcs : AllS L X d (cs_R_kindOfDeed F_R_isWord)) : Snd L X (d + 1) 223 1 (W_R_kindOfDeed F_R_kindOfDeed) := by
  refine ⟨_, z_R_kindOfDeed, rfl, fun β args k I r hty hlen h => ?_⟩
  unfold W_R_kindOfDeed at h
  split at h
  · rename_i t0 a0
    obtain ⟨hb0, h⟩ := mB_ok h
    have e0 := Nat.eq_of_beq_eq_true hb0
    have g0 : okB 112 a0 = true := e0 ▸ hty.1
    have e20 := one_112 g0
    subst e20
    obtain ⟨v, I1, h1, h2⟩ := bn_some h
    refine ⟨gf_obj (c := 12) (by decide) g0, rfl, some (0, .int v), I1, trivial, ?_, h2⟩
    exact s_R_kindOfDeed_0 hcs   (Q := fun w I => w = v ∧ I = I1) (fun w I q => by obtain ⟨rfl, rfl⟩ := q; rfl) I v I1 h1 ⟨rfl, rfl⟩
  · cases h
theorem S_R_kindOfDeed {d : Nat} (hd : 2 ≤ d) : Snd L X d 223 1 (W_R_kindOfDeed F_R_kindOfDeed) := by
  obtain ⟨e, rfl⟩ : ∃ e, d = e + 1 := ⟨d - 1, by omega⟩
  exact w_R_kindOfDeed ⟨S_R_isWord (by omega), trivial⟩
set_option maxRecDepth 100000 in
theorem z_R_mostWho : pT[224]? = some (q_R_mostWho, 2, 2, 1, 12) := rfl
def W_R_mostWho (F : Int32 → M Int32) : CSem := fun _ args k => match args with
  | [(t0, .ref a0), (_, .int a1)] => mB (Nat.beq t0 112) <| bn (F a1) fun v => k (some (0, .int v))
  | _ => fl
def cs_R_mostWho : List (Nat × Nat × CSem) := []
def F_R_mostWho (x1 : Int32) : M (Int32) :=
  (if x1 = (1 : Int32) then
    bn (rd 207 6) fun v2 =>
    rt (v2 - (1 : Int32))
  else
    (if x1 = (3 : Int32) then
      rt ((10 : Int32) - (1 : Int32))
    else
      bn (rd 207 7) fun v1 =>
      rt (v1 - (1 : Int32))))
set_option maxRecDepth 4000 in
theorem e_s_R_mostWho_0 (x1 : Int32) : wf (β := Int32) L X q_R_mostWho 1 cs_R_mostWho [] [] (fun _ _ _ => fl) (fun v => match v with | some (_, .int x) => rt x | _ => fl) 21 0 [(112, .ref 207), (0, .int x1)] [] = ((if x1 = (1 : Int32) then
    bn (rd 207 6) fun v2 =>
    rt (v2 - (1 : Int32))
  else
    (if x1 = (3 : Int32) then
      rt ((10 : Int32) - (1 : Int32))
    else
      bn (rd 207 7) fun v1 =>
      rt (v1 - (1 : Int32))))) := rfl
theorem s_R_mostWho_0 {d : Nat} (hcs : AllS L X d cs_R_mostWho) (x1 : Int32) {o : Option Value × PH} {Q : (Int32) → MI → Prop} (q0 : ∀ v I, Q v I → o = (some (.int v), HH I)) (I : MI) (r : Int32) (I1 : MI) (h : F_R_mostWho x1 I = some (r, I1)) (hq : Q r I1) : At L X (d + 1) 224 0 [(112, .ref 207), (0, .int x1)] [] I o := by
  refine wf_ok z_R_mostWho hcs ?_ ?_ _ _ _ _ _ ⟨rfl, trivial, trivial⟩ trivial (unm_refl _ _) ((congrFun (e_s_R_mostWho_0 (L := L) (X := X) x1) I).trans h)
  · intro pc ls st I2 h1 h2 h3 h
    cases h
  · intro v I2 _ h
    split at h
    · cases h; exact q0 _ _ hq
    · cases h
theorem w_R_mostWho {d : Nat} (hcs : AllS L X d cs_R_mostWho) : Snd L X (d + 1) 224 2 (W_R_mostWho F_R_mostWho) := by
  refine ⟨_, z_R_mostWho, rfl, fun β args k I r hty hlen h => ?_⟩
  unfold W_R_mostWho at h
  split at h
  · rename_i t0 a0 u1 a1
    obtain ⟨hb0, h⟩ := mB_ok h
    have e0 := Nat.eq_of_beq_eq_true hb0
    have g0 : okB 112 a0 = true := e0 ▸ hty.1
    have e20 := one_112 g0
    subst e20
    obtain ⟨v, I1, h1, h2⟩ := bn_some h
    refine ⟨gf_obj (c := 12) (by decide) g0, rfl, some (0, .int v), I1, trivial, ?_, h2⟩
    exact s_R_mostWho_0 hcs a1  (Q := fun w I => w = v ∧ I = I1) (fun w I q => by obtain ⟨rfl, rfl⟩ := q; rfl) I v I1 h1 ⟨rfl, rfl⟩
  · cases h
theorem S_R_mostWho {d : Nat} (hd : 1 ≤ d) : Snd L X d 224 2 (W_R_mostWho F_R_mostWho) := by
  obtain ⟨e, rfl⟩ : ∃ e, d = e + 1 := ⟨d - 1, by omega⟩
  exact w_R_mostWho trivial
set_option maxRecDepth 100000 in
theorem z_R_isDigit : pT[211]? = some (q_R_isDigit, 2, 2, 2, 12) := rfl
def W_R_isDigit (F : Int32 → M Int32) : CSem := fun _ args k => match args with
  | [(t0, .ref a0), (_, .int a1)] => mB (Nat.beq t0 112) <| bn (F a1) fun v => k (some (0, .int v))
  | _ => fl
def cs_R_isDigit (f_R_isIn : Int32 → Int32 → Int32 → M Int32) : List (Nat × Nat × CSem) := [(195, 4, W_R_isIn f_R_isIn)]
def F_R_isDigit (x1 : Int32) : M (Int32) :=
  bn (F_R_isIn x1 (48 : Int32) (57 : Int32)) fun v1 =>
  bn (gdZ v1) fun _ => rt v1
set_option maxRecDepth 4000 in
theorem e_s_R_isDigit_0 (f_R_isIn : Int32 → Int32 → Int32 → M Int32) (x1 : Int32) : wf (β := Int32) L X q_R_isDigit 2 (cs_R_isDigit f_R_isIn) [] [] (fun _ _ _ => fl) (fun v => match v with | some (_, .int x) => rt x | _ => fl) 11 0 [(112, .ref 207), (0, .int x1)] [] = (bn (f_R_isIn x1 (48 : Int32) (57 : Int32)) fun v1 =>
  bn (gdZ v1) fun _ => rt v1) := rfl
theorem s_R_isDigit_0 {d : Nat} (hcs : AllS L X d (cs_R_isDigit F_R_isIn)) (x1 : Int32) {o : Option Value × PH} {Q : (Int32) → MI → Prop} (q0 : ∀ v I, Q v I → o = (some (.int v), HH I)) (I : MI) (r : Int32) (I1 : MI) (h : F_R_isDigit x1 I = some (r, I1)) (hq : Q r I1) : At L X (d + 1) 211 0 [(112, .ref 207), (0, .int x1)] [] I o := by
  refine wf_ok z_R_isDigit hcs ?_ ?_ _ _ _ _ _ ⟨rfl, trivial, trivial⟩ trivial (unm_refl _ _) ((congrFun (e_s_R_isDigit_0 (L := L) (X := X) F_R_isIn x1) I).trans h)
  · intro pc ls st I2 h1 h2 h3 h
    cases h
  · intro v I2 _ h
    split at h
    · cases h; exact q0 _ _ hq
    · cases h
theorem w_R_isDigit {d : Nat} (hcs : AllS L X d (cs_R_isDigit F_R_isIn)) : Snd L X (d + 1) 211 2 (W_R_isDigit F_R_isDigit) := by
  refine ⟨_, z_R_isDigit, rfl, fun β args k I r hty hlen h => ?_⟩
  unfold W_R_isDigit at h
  split at h
  · rename_i t0 a0 u1 a1
    obtain ⟨hb0, h⟩ := mB_ok h
    have e0 := Nat.eq_of_beq_eq_true hb0
    have g0 : okB 112 a0 = true := e0 ▸ hty.1
    have e20 := one_112 g0
    subst e20
    obtain ⟨v, I1, h1, h2⟩ := bn_some h
    refine ⟨gf_obj (c := 12) (by decide) g0, rfl, some (0, .int v), I1, trivial, ?_, h2⟩
    exact s_R_isDigit_0 hcs a1  (Q := fun w I => w = v ∧ I = I1) (fun w I q => by obtain ⟨rfl, rfl⟩ := q; rfl) I v I1 h1 ⟨rfl, rfl⟩
  · cases h
theorem S_R_isDigit {d : Nat} (hd : 2 ≤ d) : Snd L X d 211 2 (W_R_isDigit F_R_isDigit) := by
  obtain ⟨e, rfl⟩ : ∃ e, d = e + 1 := ⟨d - 1, by omega⟩
  exact w_R_isDigit ⟨S_R_isIn (by omega), trivial⟩
set_option maxRecDepth 100000 in
theorem z_R_isLetter : pT[209]? = some (q_R_isLetter, 2, 2, 2, 12) := rfl
def W_R_isLetter (F : Int32 → M Int32) : CSem := fun _ args k => match args with
  | [(t0, .ref a0), (_, .int a1)] => mB (Nat.beq t0 112) <| bn (F a1) fun v => k (some (0, .int v))
  | _ => fl
def cs_R_isLetter (f_R_isIn : Int32 → Int32 → Int32 → M Int32) : List (Nat × Nat × CSem) := [(195, 4, W_R_isIn f_R_isIn)]
def F_R_isLetter (x1 : Int32) : M (Int32) :=
  bn (F_R_isIn x1 (97 : Int32) (122 : Int32)) fun v1 =>
  (if v1 = 0 then
    bn (F_R_isIn x1 (65 : Int32) (90 : Int32)) fun v2 =>
    (if v2 = 0 then
      bn (gdZ (0 : Int32)) fun _ => rt (0 : Int32)
    else
      bn (gdZ (1 : Int32)) fun _ => rt (1 : Int32))
  else
    bn (gdZ (1 : Int32)) fun _ => rt (1 : Int32))
set_option maxRecDepth 4000 in
theorem e_s_R_isLetter_0 (f_R_isIn : Int32 → Int32 → Int32 → M Int32) (x1 : Int32) : wf (β := Int32) L X q_R_isLetter 2 (cs_R_isLetter f_R_isIn) [] [] (fun _ _ _ => fl) (fun v => match v with | some (_, .int x) => rt x | _ => fl) 21 0 [(112, .ref 207), (0, .int x1)] [] = (bn (f_R_isIn x1 (97 : Int32) (122 : Int32)) fun v1 =>
  (if v1 = 0 then
    bn (f_R_isIn x1 (65 : Int32) (90 : Int32)) fun v2 =>
    (if v2 = 0 then
      bn (gdZ (0 : Int32)) fun _ => rt (0 : Int32)
    else
      bn (gdZ (1 : Int32)) fun _ => rt (1 : Int32))
  else
    bn (gdZ (1 : Int32)) fun _ => rt (1 : Int32))) := rfl
theorem s_R_isLetter_0 {d : Nat} (hcs : AllS L X d (cs_R_isLetter F_R_isIn)) (x1 : Int32) {o : Option Value × PH} {Q : (Int32) → MI → Prop} (q0 : ∀ v I, Q v I → o = (some (.int v), HH I)) (I : MI) (r : Int32) (I1 : MI) (h : F_R_isLetter x1 I = some (r, I1)) (hq : Q r I1) : At L X (d + 1) 209 0 [(112, .ref 207), (0, .int x1)] [] I o := by
  refine wf_ok z_R_isLetter hcs ?_ ?_ _ _ _ _ _ ⟨rfl, trivial, trivial⟩ trivial (unm_refl _ _) ((congrFun (e_s_R_isLetter_0 (L := L) (X := X) F_R_isIn x1) I).trans h)
  · intro pc ls st I2 h1 h2 h3 h
    cases h
  · intro v I2 _ h
    split at h
    · cases h; exact q0 _ _ hq
    · cases h
theorem w_R_isLetter {d : Nat} (hcs : AllS L X d (cs_R_isLetter F_R_isIn)) : Snd L X (d + 1) 209 2 (W_R_isLetter F_R_isLetter) := by
  refine ⟨_, z_R_isLetter, rfl, fun β args k I r hty hlen h => ?_⟩
  unfold W_R_isLetter at h
  split at h
  · rename_i t0 a0 u1 a1
    obtain ⟨hb0, h⟩ := mB_ok h
    have e0 := Nat.eq_of_beq_eq_true hb0
    have g0 : okB 112 a0 = true := e0 ▸ hty.1
    have e20 := one_112 g0
    subst e20
    obtain ⟨v, I1, h1, h2⟩ := bn_some h
    refine ⟨gf_obj (c := 12) (by decide) g0, rfl, some (0, .int v), I1, trivial, ?_, h2⟩
    exact s_R_isLetter_0 hcs a1  (Q := fun w I => w = v ∧ I = I1) (fun w I q => by obtain ⟨rfl, rfl⟩ := q; rfl) I v I1 h1 ⟨rfl, rfl⟩
  · cases h
theorem S_R_isLetter {d : Nat} (hd : 2 ≤ d) : Snd L X d 209 2 (W_R_isLetter F_R_isLetter) := by
  obtain ⟨e, rfl⟩ : ∃ e, d = e + 1 := ⟨d - 1, by omega⟩
  exact w_R_isLetter ⟨S_R_isIn (by omega), trivial⟩
set_option maxRecDepth 100000 in
theorem z_R_isMarkSign : pT[212]? = some (q_R_isMarkSign, 2, 2, 2, 12) := rfl
def W_R_isMarkSign (F : Int32 → M Int32) : CSem := fun _ args k => match args with
  | [(t0, .ref a0), (_, .int a1)] => mB (Nat.beq t0 112) <| bn (F a1) fun v => k (some (0, .int v))
  | _ => fl
def cs_R_isMarkSign : List (Nat × Nat × CSem) := []
def K_R_isMarkSign_60 : M (Int32) :=
  bn (gdZ (1 : Int32)) fun _ => rt (1 : Int32)
set_option maxRecDepth 4000 in
theorem e_s_R_isMarkSign_60 : wf (β := Int32) L X q_R_isMarkSign 2 cs_R_isMarkSign [] [60] (fun _ _ _ => fl) (fun v => match v with | some (_, .int x) => rt x | _ => fl) 39 60 [(0, dV), (0, dV)] [] = (bn (gdZ (1 : Int32)) fun _ => rt (1 : Int32)) := rfl
theorem s_R_isMarkSign_60 {d : Nat} (hcs : AllS L X d cs_R_isMarkSign) {o : Option Value × PH} {Q : (Int32) → MI → Prop} (q0 : ∀ v I, Q v I → o = (some (.int v), HH I)) (I : MI) (r : Int32) (I1 : MI) (h : K_R_isMarkSign_60 I = some (r, I1)) (hq : Q r I1) : At L X (d + 1) 212 60 [(0, dV), (0, dV)] [] I o := by
  refine wf_ok z_R_isMarkSign hcs ?_ ?_ _ _ _ _ _ ⟨trivial, trivial, trivial⟩ trivial (unm_refl _ _) ((congrFun (e_s_R_isMarkSign_60 (L := L) (X := X)) I).trans h)
  · intro pc ls st I2 h1 h2 h3 h
    cases h
  · intro v I2 _ h
    split at h
    · cases h; exact q0 _ _ hq
    · cases h
def F_R_isMarkSign (x1 : Int32) : M (Int32) :=
  (if x1 = (59 : Int32) then
    K_R_isMarkSign_60
  else
    (if x1 = (43 : Int32) then
      K_R_isMarkSign_60
    else
      (if x1 = (45 : Int32) then
        K_R_isMarkSign_60
      else
        (if x1 = (42 : Int32) then
          K_R_isMarkSign_60
        else
          (if x1 = (47 : Int32) then
            K_R_isMarkSign_60
          else
            (if x1 = (40 : Int32) then
              K_R_isMarkSign_60
            else
              (if x1 = (41 : Int32) then
                K_R_isMarkSign_60
              else
                (if x1 = (60 : Int32) then
                  K_R_isMarkSign_60
                else
                  (if x1 = (61 : Int32) then
                    K_R_isMarkSign_60
                  else
                    (if x1 = (62 : Int32) then
                      K_R_isMarkSign_60
                    else
                      bn (gdZ (0 : Int32)) fun _ => rt (0 : Int32)))))))))))
set_option maxRecDepth 4000 in
theorem e_s_R_isMarkSign_0 (k_60 : M (Int32)) (x1 : Int32) : wf (β := Int32) L X q_R_isMarkSign 2 cs_R_isMarkSign [] [60] (fun pc ls st => mC (Nat.beq pc 60) (mN st <| gD ls 0 <| gD ls 1 <| k_60) (fl)) (fun v => match v with | some (_, .int x) => rt x | _ => fl) 39 0 [(112, .ref 207), (0, .int x1)] [] = ((if x1 = (59 : Int32) then
    k_60
  else
    (if x1 = (43 : Int32) then
      k_60
    else
      (if x1 = (45 : Int32) then
        k_60
      else
        (if x1 = (42 : Int32) then
          k_60
        else
          (if x1 = (47 : Int32) then
            k_60
          else
            (if x1 = (40 : Int32) then
              k_60
            else
              (if x1 = (41 : Int32) then
                k_60
              else
                (if x1 = (60 : Int32) then
                  k_60
                else
                  (if x1 = (61 : Int32) then
                    k_60
                  else
                    (if x1 = (62 : Int32) then
                      k_60
                    else
                      bn (gdZ (0 : Int32)) fun _ => rt (0 : Int32)))))))))))) := rfl
theorem s_R_isMarkSign_0 {d : Nat} (hcs : AllS L X d cs_R_isMarkSign) (x1 : Int32) {o : Option Value × PH} {Q : (Int32) → MI → Prop} (q0 : ∀ v I, Q v I → o = (some (.int v), HH I)) (I : MI) (r : Int32) (I1 : MI) (h : F_R_isMarkSign x1 I = some (r, I1)) (hq : Q r I1) : At L X (d + 1) 212 0 [(112, .ref 207), (0, .int x1)] [] I o := by
  refine wf_ok z_R_isMarkSign hcs ?_ ?_ _ _ _ _ _ ⟨rfl, trivial, trivial⟩ trivial (unm_refl _ _) ((congrFun (e_s_R_isMarkSign_0 (L := L) (X := X) K_R_isMarkSign_60 x1) I).trans h)
  · intro pc ls st I2 h1 h2 h3 h
    rcases mC_ok h with ⟨hb, h⟩ | ⟨_, h⟩
    · have e := Nat.eq_of_beq_eq_true hb
      subst e
      obtain ⟨hst, h⟩ := mN_ok h
      subst hst
      obtain ⟨n0, h⟩ := gD_ok h
      obtain ⟨n1, h⟩ := gD_ok h
      refine at_leaf (ls2 := [(0, dV), (0, dV)]) h3.1 ⟨Or.inl ⟨rfl, n0⟩, Or.inl ⟨rfl, n1⟩, trivial⟩ ?_
      exact s_R_isMarkSign_60 hcs q0 _ _ _ h hq
    cases h
  · intro v I2 _ h
    split at h
    · cases h; exact q0 _ _ hq
    · cases h
theorem w_R_isMarkSign {d : Nat} (hcs : AllS L X d cs_R_isMarkSign) : Snd L X (d + 1) 212 2 (W_R_isMarkSign F_R_isMarkSign) := by
  refine ⟨_, z_R_isMarkSign, rfl, fun β args k I r hty hlen h => ?_⟩
  unfold W_R_isMarkSign at h
  split at h
  · rename_i t0 a0 u1 a1
    obtain ⟨hb0, h⟩ := mB_ok h
    have e0 := Nat.eq_of_beq_eq_true hb0
    have g0 : okB 112 a0 = true := e0 ▸ hty.1
    have e20 := one_112 g0
    subst e20
    obtain ⟨v, I1, h1, h2⟩ := bn_some h
    refine ⟨gf_obj (c := 12) (by decide) g0, rfl, some (0, .int v), I1, trivial, ?_, h2⟩
    exact s_R_isMarkSign_0 hcs a1  (Q := fun w I => w = v ∧ I = I1) (fun w I q => by obtain ⟨rfl, rfl⟩ := q; rfl) I v I1 h1 ⟨rfl, rfl⟩
  · cases h
theorem S_R_isMarkSign {d : Nat} (hd : 1 ≤ d) : Snd L X d 212 2 (W_R_isMarkSign F_R_isMarkSign) := by
  obtain ⟨e, rfl⟩ : ∃ e, d = e + 1 := ⟨d - 1, by omega⟩
  exact w_R_isMarkSign trivial
set_option maxRecDepth 100000 in
theorem z_R_raw : pT[208]? = some (q_R_raw, 2, 2, 1, 12) := rfl
def W_R_raw (F : Int32 → M Int32) : CSem := fun _ args k => match args with
  | [(t0, .ref a0), (_, .int a1)] => mB (Nat.beq t0 112) <| bn (F a1) fun v => k (some (0, .int v))
  | _ => fl
def cs_R_raw : List (Nat × Nat × CSem) := []
def F_R_raw (x1 : Int32) : M (Int32) :=
  bn (rd 207 14) fun v1 =>
  (if x1 < v1 then
    bn (ld 400 216 x1) fun v2 =>
    rt v2
  else
    rt (-1 : Int32))
set_option maxRecDepth 4000 in
theorem e_s_R_raw_0 (x1 : Int32) : wf (β := Int32) L X q_R_raw 1 cs_R_raw [] [] (fun _ _ _ => fl) (fun v => match v with | some (_, .int x) => rt x | _ => fl) 16 0 [(112, .ref 207), (0, .int x1)] [] = (bn (rd 207 14) fun v1 =>
  (if x1 < v1 then
    bn (ld 400 216 x1) fun v2 =>
    rt v2
  else
    rt (-1 : Int32))) := rfl
theorem s_R_raw_0 {d : Nat} (hcs : AllS L X d cs_R_raw) (x1 : Int32) {o : Option Value × PH} {Q : (Int32) → MI → Prop} (q0 : ∀ v I, Q v I → o = (some (.int v), HH I)) (I : MI) (r : Int32) (I1 : MI) (h : F_R_raw x1 I = some (r, I1)) (hq : Q r I1) : At L X (d + 1) 208 0 [(112, .ref 207), (0, .int x1)] [] I o := by
  refine wf_ok z_R_raw hcs ?_ ?_ _ _ _ _ _ ⟨rfl, trivial, trivial⟩ trivial (unm_refl _ _) ((congrFun (e_s_R_raw_0 (L := L) (X := X) x1) I).trans h)
  · intro pc ls st I2 h1 h2 h3 h
    cases h
  · intro v I2 _ h
    split at h
    · cases h; exact q0 _ _ hq
    · cases h
theorem w_R_raw {d : Nat} (hcs : AllS L X d cs_R_raw) : Snd L X (d + 1) 208 2 (W_R_raw F_R_raw) := by
  refine ⟨_, z_R_raw, rfl, fun β args k I r hty hlen h => ?_⟩
  unfold W_R_raw at h
  split at h
  · rename_i t0 a0 u1 a1
    obtain ⟨hb0, h⟩ := mB_ok h
    have e0 := Nat.eq_of_beq_eq_true hb0
    have g0 : okB 112 a0 = true := e0 ▸ hty.1
    have e20 := one_112 g0
    subst e20
    obtain ⟨v, I1, h1, h2⟩ := bn_some h
    refine ⟨gf_obj (c := 12) (by decide) g0, rfl, some (0, .int v), I1, trivial, ?_, h2⟩
    exact s_R_raw_0 hcs a1  (Q := fun w I => w = v ∧ I = I1) (fun w I q => by obtain ⟨rfl, rfl⟩ := q; rfl) I v I1 h1 ⟨rfl, rfl⟩
  · cases h
theorem S_R_raw {d : Nat} (hd : 1 ≤ d) : Snd L X d 208 2 (W_R_raw F_R_raw) := by
  obtain ⟨e, rfl⟩ : ∃ e, d = e + 1 := ⟨d - 1, by omega⟩
  exact w_R_raw trivial
set_option maxRecDepth 100000 in
theorem z_R_wordAt : pT[210]? = some (q_R_wordAt, 3, 6, 1, 12) := rfl
def W_R_wordAt (F : Int32 → Int32 → M Int32) : CSem := fun _ args k => match args with
  | [(t0, .ref a0), (_, .int a1), (_, .int a2)] => mB (Nat.beq t0 112) <| bn (F a1 a2) fun v => k (some (0, .int v))
  | _ => fl
def cs_R_wordAt : List (Nat × Nat × CSem) := []
def B_R_wordAt_19 (x1 : Int32) (x2 : Int32) (x3 : Int32) (x4 : Int32) (y : Int32) : M ((Int32) ⊕ ((Int32))) :=
  (if (x1 + y) < x2 then
    bn (ld 124 217 ((x4 + (1 : Int32)) + y)) fun v1 =>
    bn (ld 400 216 (x1 + y)) fun v2 =>
    (if v1 = v2 then
      rt (.inl (y + (1 : Int32)))
    else
      rt (.inr y))
  else
    rt (.inr y))
set_option maxRecDepth 4000 in
theorem e_b_R_wordAt_19 (x1 : Int32) (x2 : Int32) (x3 : Int32) (x4 : Int32) (y : Int32) : wf (β := (Int32) ⊕ ((Int32))) L X q_R_wordAt 1 cs_R_wordAt [5] [5, 19, 60, 93, 114] (fun pc ls st => mC (Nat.beq pc 19) (mN st <| gI ls 5 fun a5 => rt (.inl a5)) (mC (Nat.beq pc 60) (mN st <| gI ls 5 fun a5 => rt (.inr a5)) (fl))) (fun _ => fl) 78 19 [(112, .ref 207), (0, .int x1), (0, .int x2), (0, .int x3), (0, .int x4), (0, .int y)] [] = ((if (x1 + y) < x2 then
    bn (ld 124 217 ((x4 + (1 : Int32)) + y)) fun v1 =>
    bn (ld 400 216 (x1 + y)) fun v2 =>
    (if v1 = v2 then
      rt (.inl (y + (1 : Int32)))
    else
      rt (.inr y))
  else
    rt (.inr y))) := rfl
theorem b_R_wordAt_19 {d : Nat} (hcs : AllS L X d cs_R_wordAt) (x1 : Int32) (x2 : Int32) (x3 : Int32) (x4 : Int32) {o : Option Value × PH} {Q : ((Int32) ⊕ ((Int32))) → MI → Prop} (qb : ∀ y I, Q (.inl y) I → At L X (d + 1) 210 19 [(112, .ref 207), (0, .int x1), (0, .int x2), (0, .int x3), (0, .int x4), (0, .int y)] [] I o) (qe60 : ∀ y I, Q (.inr y) I → At L X (d + 1) 210 60 [(112, .ref 207), (0, .int x1), (0, .int x2), (0, .int x3), (0, .int x4), (0, .int y)] [] I o) (y : Int32) (I : MI) (r : (Int32) ⊕ ((Int32))) (I1 : MI) (h : B_R_wordAt_19 x1 x2 x3 x4 y I = some (r, I1)) (hq : Q r I1) : At L X (d + 1) 210 19 [(112, .ref 207), (0, .int x1), (0, .int x2), (0, .int x3), (0, .int x4), (0, .int y)] [] I o := by
  refine wf_ok z_R_wordAt hcs ?_ ?_ _ _ _ _ _ ⟨rfl, trivial, trivial, trivial, trivial, trivial, trivial⟩ trivial (unm_refl _ _) ((congrFun (e_b_R_wordAt_19 (L := L) (X := X) x1 x2 x3 x4 y) I).trans h)
  · intro pc ls st I2 h1 h2 h3 h
    rcases mC_ok h with ⟨hb, h⟩ | ⟨_, h⟩
    · have e := Nat.eq_of_beq_eq_true hb
      subst e
      obtain ⟨hst, h⟩ := mN_ok h
      subst hst
      obtain ⟨a5, n5, h⟩ := gI_ok h
      refine at_leaf (ls2 := [(112, .ref 207), (0, .int x1), (0, .int x2), (0, .int x3), (0, .int x4), (0, .int a5)]) h3.1 ⟨Or.inr ⟨_, (h3.2 0 rfl).trans rfl⟩, Or.inr ⟨_, (h3.2 1 rfl).trans rfl⟩, Or.inr ⟨_, (h3.2 2 rfl).trans rfl⟩, Or.inr ⟨_, (h3.2 3 rfl).trans rfl⟩, Or.inr ⟨_, (h3.2 4 rfl).trans rfl⟩, Or.inr n5, trivial⟩ ?_
      cases h; exact qb _ _ hq
    rcases mC_ok h with ⟨hb, h⟩ | ⟨_, h⟩
    · have e := Nat.eq_of_beq_eq_true hb
      subst e
      obtain ⟨hst, h⟩ := mN_ok h
      subst hst
      obtain ⟨a5, n5, h⟩ := gI_ok h
      refine at_leaf (ls2 := [(112, .ref 207), (0, .int x1), (0, .int x2), (0, .int x3), (0, .int x4), (0, .int a5)]) h3.1 ⟨Or.inr ⟨_, (h3.2 0 rfl).trans rfl⟩, Or.inr ⟨_, (h3.2 1 rfl).trans rfl⟩, Or.inr ⟨_, (h3.2 2 rfl).trans rfl⟩, Or.inr ⟨_, (h3.2 3 rfl).trans rfl⟩, Or.inr ⟨_, (h3.2 4 rfl).trans rfl⟩, Or.inr n5, trivial⟩ ?_
      cases h; exact qe60 _ _ hq
    cases h
  · intro v I2 _ h
    cases h
def B_R_wordAt_93 (x1 : Int32) (x2 : Int32) (x3 : Int32) (y : Int32) : M ((Int32) ⊕ ((Int32))) :=
  bn (ld 124 217 y) fun v1 =>
  (if v1 = (32 : Int32) then
    rt (.inr y)
  else
    rt (.inl (y + (1 : Int32))))
set_option maxRecDepth 4000 in
theorem e_b_R_wordAt_93 (x1 : Int32) (x2 : Int32) (x3 : Int32) (y : Int32) : wf (β := (Int32) ⊕ ((Int32))) L X q_R_wordAt 1 cs_R_wordAt [4] [5, 19, 60, 93, 114] (fun pc ls st => mC (Nat.beq pc 93) (mN st <| gI ls 4 fun a4 => gD ls 5 <| rt (.inl a4)) (mC (Nat.beq pc 114) (mN st <| gI ls 4 fun a4 => gD ls 5 <| rt (.inr a4)) (fl))) (fun _ => fl) 78 93 [(112, .ref 207), (0, .int x1), (0, .int x2), (0, .int x3), (0, .int y), (0, dV)] [] = (bn (ld 124 217 y) fun v1 =>
  (if v1 = (32 : Int32) then
    rt (.inr y)
  else
    rt (.inl (y + (1 : Int32))))) := rfl
theorem b_R_wordAt_93 {d : Nat} (hcs : AllS L X d cs_R_wordAt) (x1 : Int32) (x2 : Int32) (x3 : Int32) {o : Option Value × PH} {Q : ((Int32) ⊕ ((Int32))) → MI → Prop} (qb : ∀ y I, Q (.inl y) I → At L X (d + 1) 210 93 [(112, .ref 207), (0, .int x1), (0, .int x2), (0, .int x3), (0, .int y), (0, dV)] [] I o) (qe114 : ∀ y I, Q (.inr y) I → At L X (d + 1) 210 114 [(112, .ref 207), (0, .int x1), (0, .int x2), (0, .int x3), (0, .int y), (0, dV)] [] I o) (y : Int32) (I : MI) (r : (Int32) ⊕ ((Int32))) (I1 : MI) (h : B_R_wordAt_93 x1 x2 x3 y I = some (r, I1)) (hq : Q r I1) : At L X (d + 1) 210 93 [(112, .ref 207), (0, .int x1), (0, .int x2), (0, .int x3), (0, .int y), (0, dV)] [] I o := by
  refine wf_ok z_R_wordAt hcs ?_ ?_ _ _ _ _ _ ⟨rfl, trivial, trivial, trivial, trivial, trivial, trivial⟩ trivial (unm_refl _ _) ((congrFun (e_b_R_wordAt_93 (L := L) (X := X) x1 x2 x3 y) I).trans h)
  · intro pc ls st I2 h1 h2 h3 h
    rcases mC_ok h with ⟨hb, h⟩ | ⟨_, h⟩
    · have e := Nat.eq_of_beq_eq_true hb
      subst e
      obtain ⟨hst, h⟩ := mN_ok h
      subst hst
      obtain ⟨a4, n4, h⟩ := gI_ok h
      obtain ⟨n5, h⟩ := gD_ok h
      refine at_leaf (ls2 := [(112, .ref 207), (0, .int x1), (0, .int x2), (0, .int x3), (0, .int a4), (0, dV)]) h3.1 ⟨Or.inr ⟨_, (h3.2 0 rfl).trans rfl⟩, Or.inr ⟨_, (h3.2 1 rfl).trans rfl⟩, Or.inr ⟨_, (h3.2 2 rfl).trans rfl⟩, Or.inr ⟨_, (h3.2 3 rfl).trans rfl⟩, Or.inr n4, Or.inl ⟨rfl, n5⟩, trivial⟩ ?_
      cases h; exact qb _ _ hq
    rcases mC_ok h with ⟨hb, h⟩ | ⟨_, h⟩
    · have e := Nat.eq_of_beq_eq_true hb
      subst e
      obtain ⟨hst, h⟩ := mN_ok h
      subst hst
      obtain ⟨a4, n4, h⟩ := gI_ok h
      obtain ⟨n5, h⟩ := gD_ok h
      refine at_leaf (ls2 := [(112, .ref 207), (0, .int x1), (0, .int x2), (0, .int x3), (0, .int a4), (0, dV)]) h3.1 ⟨Or.inr ⟨_, (h3.2 0 rfl).trans rfl⟩, Or.inr ⟨_, (h3.2 1 rfl).trans rfl⟩, Or.inr ⟨_, (h3.2 2 rfl).trans rfl⟩, Or.inr ⟨_, (h3.2 3 rfl).trans rfl⟩, Or.inr n4, Or.inl ⟨rfl, n5⟩, trivial⟩ ?_
      cases h; exact qe114 _ _ hq
    cases h
  · intro v I2 _ h
    cases h
def K_R_wordAt_114 (x1 : Int32) (x2 : Int32) (x3 : Int32) (x4 : Int32) : M ((Int32 × Int32) ⊕ (Int32)) :=
  rt (.inl (x3, x4))
set_option maxRecDepth 4000 in
theorem e_s_R_wordAt_114 (x1 : Int32) (x2 : Int32) (x3 : Int32) (x4 : Int32) : wf (β := (Int32 × Int32) ⊕ (Int32)) L X q_R_wordAt 1 cs_R_wordAt [] [5, 19, 60, 93, 114] (fun pc ls st => mC (Nat.beq pc 5) (mN st <| gD ls 5 <| rt (.inl (x3, x4))) (fl)) (fun v => match v with | some (_, .int x) => rt (.inr x) | _ => fl) 78 114 [(112, .ref 207), (0, .int x1), (0, .int x2), (0, .int x3), (0, .int x4), (0, dV)] [] = (rt (.inl (x3, x4))) := rfl
theorem s_R_wordAt_114 {d : Nat} (hcs : AllS L X d cs_R_wordAt) (x1 : Int32) (x2 : Int32) (x3 : Int32) (x4 : Int32) {o : Option Value × PH} {Q : ((Int32 × Int32) ⊕ (Int32)) → MI → Prop} (qb : ∀ y I, Q (.inl y) I → At L X (d + 1) 210 5 [(112, .ref 207), (0, .int x1), (0, .int x2), (0, .int y.1), (0, .int y.2), (0, dV)] [] I o) (qr : ∀ v I, Q (.inr v) I → o = (some (.int v), HH I)) (I : MI) (r : (Int32 × Int32) ⊕ (Int32)) (I1 : MI) (h : K_R_wordAt_114 x1 x2 x3 x4 I = some (r, I1)) (hq : Q r I1) : At L X (d + 1) 210 114 [(112, .ref 207), (0, .int x1), (0, .int x2), (0, .int x3), (0, .int x4), (0, dV)] [] I o := by
  refine wf_ok z_R_wordAt hcs ?_ ?_ _ _ _ _ _ ⟨rfl, trivial, trivial, trivial, trivial, trivial, trivial⟩ trivial (unm_refl _ _) ((congrFun (e_s_R_wordAt_114 (L := L) (X := X) x1 x2 x3 x4) I).trans h)
  · intro pc ls st I2 h1 h2 h3 h
    rcases mC_ok h with ⟨hb, h⟩ | ⟨_, h⟩
    · have e := Nat.eq_of_beq_eq_true hb
      subst e
      obtain ⟨hst, h⟩ := mN_ok h
      subst hst
      obtain ⟨n5, h⟩ := gD_ok h
      refine at_leaf (ls2 := [(112, .ref 207), (0, .int x1), (0, .int x2), (0, .int x3), (0, .int x4), (0, dV)]) h3.1 ⟨Or.inr ⟨_, (h3.2 0 rfl).trans rfl⟩, Or.inr ⟨_, (h3.2 1 rfl).trans rfl⟩, Or.inr ⟨_, (h3.2 2 rfl).trans rfl⟩, Or.inr ⟨_, (h3.2 3 rfl).trans rfl⟩, Or.inr ⟨_, (h3.2 4 rfl).trans rfl⟩, Or.inl ⟨rfl, n5⟩, trivial⟩ ?_
      cases h; exact qb _ _ hq
    cases h
  · intro v I2 _ h
    split at h
    · cases h; exact qr _ _ hq
    · cases h
def K_R_wordAt_93 (x1 : Int32) (x2 : Int32) (x3 : Int32) (x4 : Int32) : M ((Int32 × Int32) ⊕ (Int32)) :=
  bn (lp (B_R_wordAt_93 x1 x2 x3) FU x4) fun e => K_R_wordAt_114 x1 x2 x3 e
theorem s_R_wordAt_93 {d : Nat} (hcs : AllS L X d cs_R_wordAt) (x1 : Int32) (x2 : Int32) (x3 : Int32) (x4 : Int32) {o : Option Value × PH} {Q : ((Int32 × Int32) ⊕ (Int32)) → MI → Prop} (qb : ∀ y I, Q (.inl y) I → At L X (d + 1) 210 5 [(112, .ref 207), (0, .int x1), (0, .int x2), (0, .int y.1), (0, .int y.2), (0, dV)] [] I o) (qr : ∀ v I, Q (.inr v) I → o = (some (.int v), HH I)) (I : MI) (r : (Int32 × Int32) ⊕ (Int32)) (I1 : MI) (h : K_R_wordAt_93 x1 x2 x3 x4 I = some (r, I1)) (hq : Q r I1) : At L X (d + 1) 210 93 [(112, .ref 207), (0, .int x1), (0, .int x2), (0, .int x3), (0, .int x4), (0, dV)] [] I o := by
  unfold K_R_wordAt_93 at h
  obtain ⟨e, I2, h1, h2⟩ := bn_some h
  have w0 := fun w => at_lp (body := B_R_wordAt_93 x1 x2 x3) (P := (fun (y : Int32) I => At L X (d + 1) 210 93 [(112, .ref 207), (0, .int x1), (0, .int x2), (0, .int x3), (0, .int y), (0, dV)] [] I o)) (Q := (fun (e : (Int32)) I => (K_R_wordAt_114 x1 x2 x3 e) I = some (r, I1))) w FU x4 I e I2 h1 h2
  refine w0 ?_
  intro y I r2 I3 h hq2
  exact b_R_wordAt_93 hcs x1 x2 x3 (Q := SQ (fun (y : Int32) I => At L X (d + 1) 210 93 [(112, .ref 207), (0, .int x1), (0, .int x2), (0, .int x3), (0, .int y), (0, dV)] [] I o) (fun (e : (Int32)) I => (K_R_wordAt_114 x1 x2 x3 e) I = some (r, I1))) (fun _ _ w => w) (fun y I w => s_R_wordAt_114 hcs x1 x2 x3 y qb qr _ _ _ w hq) y I r2 I3 h hq2
def K_R_wordAt_60 (x1 : Int32) (x2 : Int32) (x3 : Int32) (x4 : Int32) (x5 : Int32) : M ((Int32 × Int32) ⊕ (Int32)) :=
  (if (x1 + x5) = x2 then
    bn (ld 124 217 ((x4 + (1 : Int32)) + x5)) fun v1 =>
    (if v1 = (32 : Int32) then
      rt (.inr x3)
    else
      K_R_wordAt_93 x1 x2 x3 (x4 + (1 : Int32)))
  else
    K_R_wordAt_93 x1 x2 x3 (x4 + (1 : Int32)))
set_option maxRecDepth 4000 in
theorem e_s_R_wordAt_60 (k_93 : Int32 → Int32 → Int32 → Int32 → M ((Int32 × Int32) ⊕ (Int32))) (x1 : Int32) (x2 : Int32) (x3 : Int32) (x4 : Int32) (x5 : Int32) : wf (β := (Int32 × Int32) ⊕ (Int32)) L X q_R_wordAt 1 cs_R_wordAt [4] [5, 19, 60, 93, 114] (fun pc ls st => mC (Nat.beq pc 93) (mN st <| gI ls 4 fun a4 => gD ls 5 <| k_93 x1 x2 x3 a4) (fl)) (fun v => match v with | some (_, .int x) => rt (.inr x) | _ => fl) 78 60 [(112, .ref 207), (0, .int x1), (0, .int x2), (0, .int x3), (0, .int x4), (0, .int x5)] [] = ((if (x1 + x5) = x2 then
    bn (ld 124 217 ((x4 + (1 : Int32)) + x5)) fun v1 =>
    (if v1 = (32 : Int32) then
      rt (.inr x3)
    else
      k_93 x1 x2 x3 (x4 + (1 : Int32)))
  else
    k_93 x1 x2 x3 (x4 + (1 : Int32)))) := rfl
theorem s_R_wordAt_60 {d : Nat} (hcs : AllS L X d cs_R_wordAt) (x1 : Int32) (x2 : Int32) (x3 : Int32) (x4 : Int32) (x5 : Int32) {o : Option Value × PH} {Q : ((Int32 × Int32) ⊕ (Int32)) → MI → Prop} (qb : ∀ y I, Q (.inl y) I → At L X (d + 1) 210 5 [(112, .ref 207), (0, .int x1), (0, .int x2), (0, .int y.1), (0, .int y.2), (0, dV)] [] I o) (qr : ∀ v I, Q (.inr v) I → o = (some (.int v), HH I)) (I : MI) (r : (Int32 × Int32) ⊕ (Int32)) (I1 : MI) (h : K_R_wordAt_60 x1 x2 x3 x4 x5 I = some (r, I1)) (hq : Q r I1) : At L X (d + 1) 210 60 [(112, .ref 207), (0, .int x1), (0, .int x2), (0, .int x3), (0, .int x4), (0, .int x5)] [] I o := by
  refine wf_ok z_R_wordAt hcs ?_ ?_ _ _ _ _ _ ⟨rfl, trivial, trivial, trivial, trivial, trivial, trivial⟩ trivial (unm_refl _ _) ((congrFun (e_s_R_wordAt_60 (L := L) (X := X) K_R_wordAt_93 x1 x2 x3 x4 x5) I).trans h)
  · intro pc ls st I2 h1 h2 h3 h
    rcases mC_ok h with ⟨hb, h⟩ | ⟨_, h⟩
    · have e := Nat.eq_of_beq_eq_true hb
      subst e
      obtain ⟨hst, h⟩ := mN_ok h
      subst hst
      obtain ⟨a4, n4, h⟩ := gI_ok h
      obtain ⟨n5, h⟩ := gD_ok h
      refine at_leaf (ls2 := [(112, .ref 207), (0, .int x1), (0, .int x2), (0, .int x3), (0, .int a4), (0, dV)]) h3.1 ⟨Or.inr ⟨_, (h3.2 0 rfl).trans rfl⟩, Or.inr ⟨_, (h3.2 1 rfl).trans rfl⟩, Or.inr ⟨_, (h3.2 2 rfl).trans rfl⟩, Or.inr ⟨_, (h3.2 3 rfl).trans rfl⟩, Or.inr n4, Or.inl ⟨rfl, n5⟩, trivial⟩ ?_
      exact s_R_wordAt_93 hcs x1 x2 x3 a4 qb qr _ _ _ h hq
    cases h
  · intro v I2 _ h
    split at h
    · cases h; exact qr _ _ hq
    · cases h
def K_R_wordAt_19 (x1 : Int32) (x2 : Int32) (x3 : Int32) (x4 : Int32) (x5 : Int32) : M ((Int32 × Int32) ⊕ (Int32)) :=
  bn (lp (B_R_wordAt_19 x1 x2 x3 x4) FU x5) fun e => K_R_wordAt_60 x1 x2 x3 x4 e
theorem s_R_wordAt_19 {d : Nat} (hcs : AllS L X d cs_R_wordAt) (x1 : Int32) (x2 : Int32) (x3 : Int32) (x4 : Int32) (x5 : Int32) {o : Option Value × PH} {Q : ((Int32 × Int32) ⊕ (Int32)) → MI → Prop} (qb : ∀ y I, Q (.inl y) I → At L X (d + 1) 210 5 [(112, .ref 207), (0, .int x1), (0, .int x2), (0, .int y.1), (0, .int y.2), (0, dV)] [] I o) (qr : ∀ v I, Q (.inr v) I → o = (some (.int v), HH I)) (I : MI) (r : (Int32 × Int32) ⊕ (Int32)) (I1 : MI) (h : K_R_wordAt_19 x1 x2 x3 x4 x5 I = some (r, I1)) (hq : Q r I1) : At L X (d + 1) 210 19 [(112, .ref 207), (0, .int x1), (0, .int x2), (0, .int x3), (0, .int x4), (0, .int x5)] [] I o := by
  unfold K_R_wordAt_19 at h
  obtain ⟨e, I2, h1, h2⟩ := bn_some h
  have w0 := fun w => at_lp (body := B_R_wordAt_19 x1 x2 x3 x4) (P := (fun (y : Int32) I => At L X (d + 1) 210 19 [(112, .ref 207), (0, .int x1), (0, .int x2), (0, .int x3), (0, .int x4), (0, .int y)] [] I o)) (Q := (fun (e : (Int32)) I => (K_R_wordAt_60 x1 x2 x3 x4 e) I = some (r, I1))) w FU x5 I e I2 h1 h2
  refine w0 ?_
  intro y I r2 I3 h hq2
  exact b_R_wordAt_19 hcs x1 x2 x3 x4 (Q := SQ (fun (y : Int32) I => At L X (d + 1) 210 19 [(112, .ref 207), (0, .int x1), (0, .int x2), (0, .int x3), (0, .int x4), (0, .int y)] [] I o) (fun (e : (Int32)) I => (K_R_wordAt_60 x1 x2 x3 x4 e) I = some (r, I1))) (fun _ _ w => w) (fun y I w => s_R_wordAt_60 hcs x1 x2 x3 x4 y qb qr _ _ _ w hq) y I r2 I3 h hq2
def B_R_wordAt_5 (x1 : Int32) (x2 : Int32) (y : Int32 × Int32) : M ((Int32 × Int32) ⊕ (Int32)) :=
  (if y.2 < (123 : Int32) then
    K_R_wordAt_19 x1 x2 (y.1 + (1 : Int32)) y.2 (0 : Int32)
  else
    rt (.inr (-1 : Int32)))
set_option maxRecDepth 4000 in
theorem e_b_R_wordAt_5 (k_19 : Int32 → Int32 → Int32 → Int32 → Int32 → M ((Int32 × Int32) ⊕ (Int32))) (x1 : Int32) (x2 : Int32) (y : Int32 × Int32) : wf (β := (Int32 × Int32) ⊕ (Int32)) L X q_R_wordAt 1 cs_R_wordAt [3, 5] [5, 19, 60, 93, 114] (fun pc ls st => mC (Nat.beq pc 19) (mN st <| gI ls 3 fun a3 => gI ls 5 fun a5 => k_19 x1 x2 a3 y.2 a5) (fl)) (fun v => match v with | some (_, .int x) => rt (.inr x) | _ => fl) 78 5 [(112, .ref 207), (0, .int x1), (0, .int x2), (0, .int y.1), (0, .int y.2), (0, dV)] [] = ((if y.2 < (123 : Int32) then
    k_19 x1 x2 (y.1 + (1 : Int32)) y.2 (0 : Int32)
  else
    rt (.inr (-1 : Int32)))) := rfl
theorem b_R_wordAt_5 {d : Nat} (hcs : AllS L X d cs_R_wordAt) (x1 : Int32) (x2 : Int32) {o : Option Value × PH} {Q : ((Int32 × Int32) ⊕ (Int32)) → MI → Prop} (qb : ∀ y I, Q (.inl y) I → At L X (d + 1) 210 5 [(112, .ref 207), (0, .int x1), (0, .int x2), (0, .int y.1), (0, .int y.2), (0, dV)] [] I o) (qr : ∀ v I, Q (.inr v) I → o = (some (.int v), HH I)) (y : Int32 × Int32) (I : MI) (r : (Int32 × Int32) ⊕ (Int32)) (I1 : MI) (h : B_R_wordAt_5 x1 x2 y I = some (r, I1)) (hq : Q r I1) : At L X (d + 1) 210 5 [(112, .ref 207), (0, .int x1), (0, .int x2), (0, .int y.1), (0, .int y.2), (0, dV)] [] I o := by
  refine wf_ok z_R_wordAt hcs ?_ ?_ _ _ _ _ _ ⟨rfl, trivial, trivial, trivial, trivial, trivial, trivial⟩ trivial (unm_refl _ _) ((congrFun (e_b_R_wordAt_5 (L := L) (X := X) K_R_wordAt_19 x1 x2 y) I).trans h)
  · intro pc ls st I2 h1 h2 h3 h
    rcases mC_ok h with ⟨hb, h⟩ | ⟨_, h⟩
    · have e := Nat.eq_of_beq_eq_true hb
      subst e
      obtain ⟨hst, h⟩ := mN_ok h
      subst hst
      obtain ⟨a3, n3, h⟩ := gI_ok h
      obtain ⟨a5, n5, h⟩ := gI_ok h
      refine at_leaf (ls2 := [(112, .ref 207), (0, .int x1), (0, .int x2), (0, .int a3), (0, .int y.2), (0, .int a5)]) h3.1 ⟨Or.inr ⟨_, (h3.2 0 rfl).trans rfl⟩, Or.inr ⟨_, (h3.2 1 rfl).trans rfl⟩, Or.inr ⟨_, (h3.2 2 rfl).trans rfl⟩, Or.inr n3, Or.inr ⟨_, (h3.2 4 rfl).trans rfl⟩, Or.inr n5, trivial⟩ ?_
      exact s_R_wordAt_19 hcs x1 x2 a3 y.2 a5 qb qr _ _ _ h hq
    cases h
  · intro v I2 _ h
    split at h
    · cases h; exact qr _ _ hq
    · cases h
def K_R_wordAt_5 (x1 : Int32) (x2 : Int32) (x3 : Int32) (x4 : Int32) : M (Int32) :=
  lp (B_R_wordAt_5 x1 x2) FU (x3, x4)
theorem s_R_wordAt_5 {d : Nat} (hcs : AllS L X d cs_R_wordAt) (x1 : Int32) (x2 : Int32) (x3 : Int32) (x4 : Int32) {o : Option Value × PH} {Q : (Int32) → MI → Prop} (q0 : ∀ v I, Q v I → o = (some (.int v), HH I)) (I : MI) (r : Int32) (I1 : MI) (h : K_R_wordAt_5 x1 x2 x3 x4 I = some (r, I1)) (hq : Q r I1) : At L X (d + 1) 210 5 [(112, .ref 207), (0, .int x1), (0, .int x2), (0, .int x3), (0, .int x4), (0, dV)] [] I o := by
  unfold K_R_wordAt_5 at h
  have w0 := fun w => at_lp (body := B_R_wordAt_5 x1 x2) (P := (fun (y : Int32 × Int32) I => At L X (d + 1) 210 5 [(112, .ref 207), (0, .int x1), (0, .int x2), (0, .int y.1), (0, .int y.2), (0, dV)] [] I o)) (Q := (fun (e : Int32) I => Q e I)) w FU (x3, x4) I r I1 h hq
  refine w0 ?_
  intro y I r I1 h hq
  exact b_R_wordAt_5 hcs x1 x2 (Q := SQ (fun (y : Int32 × Int32) I => At L X (d + 1) 210 5 [(112, .ref 207), (0, .int x1), (0, .int x2), (0, .int y.1), (0, .int y.2), (0, dV)] [] I o) (fun (e : Int32) I => Q e I)) (fun _ _ w => w) q0 y I r I1 h hq
def F_R_wordAt (x1 : Int32) (x2 : Int32) : M (Int32) :=
  K_R_wordAt_5 x1 x2 (-1 : Int32) (0 : Int32)
set_option maxRecDepth 4000 in
theorem e_s_R_wordAt_0 (k_5 : Int32 → Int32 → Int32 → Int32 → M (Int32)) (x1 : Int32) (x2 : Int32) : wf (β := Int32) L X q_R_wordAt 1 cs_R_wordAt [3, 4] [5, 19, 60, 93, 114] (fun pc ls st => mC (Nat.beq pc 5) (mN st <| gI ls 3 fun a3 => gI ls 4 fun a4 => gD ls 5 <| k_5 x1 x2 a3 a4) (fl)) (fun v => match v with | some (_, .int x) => rt x | _ => fl) 78 0 [(112, .ref 207), (0, .int x1), (0, .int x2), (0, dV), (0, dV), (0, dV)] [] = (k_5 x1 x2 (-1 : Int32) (0 : Int32)) := rfl
theorem s_R_wordAt_0 {d : Nat} (hcs : AllS L X d cs_R_wordAt) (x1 : Int32) (x2 : Int32) {o : Option Value × PH} {Q : (Int32) → MI → Prop} (q0 : ∀ v I, Q v I → o = (some (.int v), HH I)) (I : MI) (r : Int32) (I1 : MI) (h : F_R_wordAt x1 x2 I = some (r, I1)) (hq : Q r I1) : At L X (d + 1) 210 0 [(112, .ref 207), (0, .int x1), (0, .int x2), (0, dV), (0, dV), (0, dV)] [] I o := by
  refine wf_ok z_R_wordAt hcs ?_ ?_ _ _ _ _ _ ⟨rfl, trivial, trivial, trivial, trivial, trivial, trivial⟩ trivial (unm_refl _ _) ((congrFun (e_s_R_wordAt_0 (L := L) (X := X) K_R_wordAt_5 x1 x2) I).trans h)
  · intro pc ls st I2 h1 h2 h3 h
    rcases mC_ok h with ⟨hb, h⟩ | ⟨_, h⟩
    · have e := Nat.eq_of_beq_eq_true hb
      subst e
      obtain ⟨hst, h⟩ := mN_ok h
      subst hst
      obtain ⟨a3, n3, h⟩ := gI_ok h
      obtain ⟨a4, n4, h⟩ := gI_ok h
      obtain ⟨n5, h⟩ := gD_ok h
      refine at_leaf (ls2 := [(112, .ref 207), (0, .int x1), (0, .int x2), (0, .int a3), (0, .int a4), (0, dV)]) h3.1 ⟨Or.inr ⟨_, (h3.2 0 rfl).trans rfl⟩, Or.inr ⟨_, (h3.2 1 rfl).trans rfl⟩, Or.inr ⟨_, (h3.2 2 rfl).trans rfl⟩, Or.inr n3, Or.inr n4, Or.inl ⟨rfl, n5⟩, trivial⟩ ?_
      exact s_R_wordAt_5 hcs x1 x2 a3 a4 q0 _ _ _ h hq
    cases h
  · intro v I2 _ h
    split at h
    · cases h; exact q0 _ _ hq
    · cases h
theorem w_R_wordAt {d : Nat} (hcs : AllS L X d cs_R_wordAt) : Snd L X (d + 1) 210 3 (W_R_wordAt F_R_wordAt) := by
  refine ⟨_, z_R_wordAt, rfl, fun β args k I r hty hlen h => ?_⟩
  unfold W_R_wordAt at h
  split at h
  · rename_i t0 a0 u1 a1 u2 a2
    obtain ⟨hb0, h⟩ := mB_ok h
    have e0 := Nat.eq_of_beq_eq_true hb0
    have g0 : okB 112 a0 = true := e0 ▸ hty.1
    have e20 := one_112 g0
    subst e20
    obtain ⟨v, I1, h1, h2⟩ := bn_some h
    refine ⟨gf_obj (c := 12) (by decide) g0, rfl, some (0, .int v), I1, trivial, ?_, h2⟩
    exact s_R_wordAt_0 hcs a1 a2  (Q := fun w I => w = v ∧ I = I1) (fun w I q => by obtain ⟨rfl, rfl⟩ := q; rfl) I v I1 h1 ⟨rfl, rfl⟩
  · cases h
theorem S_R_wordAt {d : Nat} (hd : 1 ≤ d) : Snd L X d 210 3 (W_R_wordAt F_R_wordAt) := by
  obtain ⟨e, rfl⟩ : ∃ e, d = e + 1 := ⟨d - 1, by omega⟩
  exact w_R_wordAt trivial
set_option maxRecDepth 100000 in
theorem z_R_reads : pT[207]? = some (q_R_reads, 1, 2, 0, 12) := rfl
def W_R_reads (F : M Unit) : CSem := fun _ args k => match args with
  | [(t0, .ref a0)] => mB (Nat.beq t0 112) <| bn (F) fun _ => k none
  | _ => fl
def cs_R_reads (f_R_isDigit : Int32 → M Int32) (f_R_isLetter : Int32 → M Int32) (f_R_isMarkSign : Int32 → M Int32) (f_R_raw : Int32 → M Int32) (f_R_wordAt : Int32 → Int32 → M Int32) : List (Nat × Nat × CSem) := [(211, 2, W_R_isDigit f_R_isDigit), (209, 2, W_R_isLetter f_R_isLetter), (212, 2, W_R_isMarkSign f_R_isMarkSign), (208, 2, W_R_raw f_R_raw), (210, 3, W_R_wordAt f_R_wordAt)]
def B_R_reads_0 (y : Unit) : M ((Unit) ⊕ ((Unit))) :=
  bn (rd 207 15) fun v1 =>
  bn (F_R_raw v1) fun v2 =>
  (if v2 = (32 : Int32) then
    bn (rd 207 15) fun v3 =>
    bn (wr 207 15 (v3 + (1 : Int32))) fun _ =>
    rt (.inl ())
  else
    bn (rd 207 15) fun v4 =>
    bn (F_R_raw v4) fun v5 =>
    (if v5 = (10 : Int32) then
      bn (rd 207 15) fun v6 =>
      bn (wr 207 15 (v6 + (1 : Int32))) fun _ =>
      rt (.inl ())
    else
      rt (.inr ())))
set_option maxRecDepth 4000 in
theorem e_b_R_reads_0 (f_R_isDigit : Int32 → M Int32) (f_R_isLetter : Int32 → M Int32) (f_R_isMarkSign : Int32 → M Int32) (f_R_raw : Int32 → M Int32) (f_R_wordAt : Int32 → Int32 → M Int32) (y : Unit) : wf (β := (Unit) ⊕ ((Unit))) L X q_R_reads 0 (cs_R_reads f_R_isDigit f_R_isLetter f_R_isMarkSign f_R_raw f_R_wordAt) [] [0, 39, 95, 123, 171, 239] (fun pc ls st => mC (Nat.beq pc 0) (mN st <| gD ls 1 <| rt (.inl ())) (mC (Nat.beq pc 39) (mN st <| gD ls 1 <| rt (.inr ())) (fl))) (fun _ => fl) 148 0 [(112, .ref 207), (0, dV)] [] = (bn (rd 207 15) fun v1 =>
  bn (f_R_raw v1) fun v2 =>
  (if v2 = (32 : Int32) then
    bn (rd 207 15) fun v3 =>
    bn (wr 207 15 (v3 + (1 : Int32))) fun _ =>
    rt (.inl ())
  else
    bn (rd 207 15) fun v4 =>
    bn (f_R_raw v4) fun v5 =>
    (if v5 = (10 : Int32) then
      bn (rd 207 15) fun v6 =>
      bn (wr 207 15 (v6 + (1 : Int32))) fun _ =>
      rt (.inl ())
    else
      rt (.inr ())))) := rfl
theorem b_R_reads_0 {d : Nat} (hcs : AllS L X d (cs_R_reads F_R_isDigit F_R_isLetter F_R_isMarkSign F_R_raw F_R_wordAt)) {o : Option Value × PH} {Q : ((Unit) ⊕ ((Unit))) → MI → Prop} (qb : ∀ y I, Q (.inl y) I → At L X (d + 1) 207 0 [(112, .ref 207), (0, dV)] [] I o) (qe39 : ∀ y I, Q (.inr y) I → At L X (d + 1) 207 39 [(112, .ref 207), (0, dV)] [] I o) (y : Unit) (I : MI) (r : (Unit) ⊕ ((Unit))) (I1 : MI) (h : B_R_reads_0 y I = some (r, I1)) (hq : Q r I1) : At L X (d + 1) 207 0 [(112, .ref 207), (0, dV)] [] I o := by
  refine wf_ok z_R_reads hcs ?_ ?_ _ _ _ _ _ ⟨rfl, trivial, trivial⟩ trivial (unm_refl _ _) ((congrFun (e_b_R_reads_0 (L := L) (X := X) F_R_isDigit F_R_isLetter F_R_isMarkSign F_R_raw F_R_wordAt y) I).trans h)
  · intro pc ls st I2 h1 h2 h3 h
    rcases mC_ok h with ⟨hb, h⟩ | ⟨_, h⟩
    · have e := Nat.eq_of_beq_eq_true hb
      subst e
      obtain ⟨hst, h⟩ := mN_ok h
      subst hst
      obtain ⟨n1, h⟩ := gD_ok h
      refine at_leaf (ls2 := [(112, .ref 207), (0, dV)]) h3.1 ⟨Or.inr ⟨_, (h3.2 0 rfl).trans rfl⟩, Or.inl ⟨rfl, n1⟩, trivial⟩ ?_
      cases h; exact qb _ _ hq
    rcases mC_ok h with ⟨hb, h⟩ | ⟨_, h⟩
    · have e := Nat.eq_of_beq_eq_true hb
      subst e
      obtain ⟨hst, h⟩ := mN_ok h
      subst hst
      obtain ⟨n1, h⟩ := gD_ok h
      refine at_leaf (ls2 := [(112, .ref 207), (0, dV)]) h3.1 ⟨Or.inr ⟨_, (h3.2 0 rfl).trans rfl⟩, Or.inl ⟨rfl, n1⟩, trivial⟩ ?_
      cases h; exact qe39 _ _ hq
    cases h
  · intro v I2 _ h
    cases h
def B_R_reads_95 (y : Unit) : M ((Unit) ⊕ ((Unit))) :=
  bn (rd 207 15) fun v1 =>
  bn (F_R_raw v1) fun v2 =>
  bn (F_R_isLetter v2) fun v3 =>
  (if v3 = 0 then
    rt (.inr ())
  else
    bn (rd 207 15) fun v4 =>
    bn (wr 207 15 (v4 + (1 : Int32))) fun _ =>
    rt (.inl ()))
set_option maxRecDepth 4000 in
theorem e_b_R_reads_95 (f_R_isDigit : Int32 → M Int32) (f_R_isLetter : Int32 → M Int32) (f_R_isMarkSign : Int32 → M Int32) (f_R_raw : Int32 → M Int32) (f_R_wordAt : Int32 → Int32 → M Int32) (y : Unit) : wf (β := (Unit) ⊕ ((Unit))) L X q_R_reads 0 (cs_R_reads f_R_isDigit f_R_isLetter f_R_isMarkSign f_R_raw f_R_wordAt) [] [0, 39, 95, 123, 171, 239] (fun pc ls st => mC (Nat.beq pc 95) (mN st <| gD ls 1 <| rt (.inl ())) (mC (Nat.beq pc 123) (mN st <| gD ls 1 <| rt (.inr ())) (fl))) (fun _ => fl) 148 95 [(112, .ref 207), (0, dV)] [] = (bn (rd 207 15) fun v1 =>
  bn (f_R_raw v1) fun v2 =>
  bn (f_R_isLetter v2) fun v3 =>
  (if v3 = 0 then
    rt (.inr ())
  else
    bn (rd 207 15) fun v4 =>
    bn (wr 207 15 (v4 + (1 : Int32))) fun _ =>
    rt (.inl ()))) := rfl
theorem b_R_reads_95 {d : Nat} (hcs : AllS L X d (cs_R_reads F_R_isDigit F_R_isLetter F_R_isMarkSign F_R_raw F_R_wordAt)) {o : Option Value × PH} {Q : ((Unit) ⊕ ((Unit))) → MI → Prop} (qb : ∀ y I, Q (.inl y) I → At L X (d + 1) 207 95 [(112, .ref 207), (0, dV)] [] I o) (qe123 : ∀ y I, Q (.inr y) I → At L X (d + 1) 207 123 [(112, .ref 207), (0, dV)] [] I o) (y : Unit) (I : MI) (r : (Unit) ⊕ ((Unit))) (I1 : MI) (h : B_R_reads_95 y I = some (r, I1)) (hq : Q r I1) : At L X (d + 1) 207 95 [(112, .ref 207), (0, dV)] [] I o := by
  refine wf_ok z_R_reads hcs ?_ ?_ _ _ _ _ _ ⟨rfl, trivial, trivial⟩ trivial (unm_refl _ _) ((congrFun (e_b_R_reads_95 (L := L) (X := X) F_R_isDigit F_R_isLetter F_R_isMarkSign F_R_raw F_R_wordAt y) I).trans h)
  · intro pc ls st I2 h1 h2 h3 h
    rcases mC_ok h with ⟨hb, h⟩ | ⟨_, h⟩
    · have e := Nat.eq_of_beq_eq_true hb
      subst e
      obtain ⟨hst, h⟩ := mN_ok h
      subst hst
      obtain ⟨n1, h⟩ := gD_ok h
      refine at_leaf (ls2 := [(112, .ref 207), (0, dV)]) h3.1 ⟨Or.inr ⟨_, (h3.2 0 rfl).trans rfl⟩, Or.inl ⟨rfl, n1⟩, trivial⟩ ?_
      cases h; exact qb _ _ hq
    rcases mC_ok h with ⟨hb, h⟩ | ⟨_, h⟩
    · have e := Nat.eq_of_beq_eq_true hb
      subst e
      obtain ⟨hst, h⟩ := mN_ok h
      subst hst
      obtain ⟨n1, h⟩ := gD_ok h
      refine at_leaf (ls2 := [(112, .ref 207), (0, dV)]) h3.1 ⟨Or.inr ⟨_, (h3.2 0 rfl).trans rfl⟩, Or.inl ⟨rfl, n1⟩, trivial⟩ ?_
      cases h; exact qe123 _ _ hq
    cases h
  · intro v I2 _ h
    cases h
def K_R_reads_123 : M (Unit) :=
  bn (rd 207 16) fun v1 =>
  bn (rd 207 15) fun v2 =>
  bn (F_R_wordAt v1 v2) fun v3 =>
  bn (wr 207 18 v3) fun _ =>
  bn (rd 207 18) fun v4 =>
  (if v4 = (-1 : Int32) then
    rt ()
  else
    bn (wr 207 17 (2 : Int32)) fun _ =>
    rt ())
set_option maxRecDepth 4000 in
theorem e_s_R_reads_123 (f_R_isDigit : Int32 → M Int32) (f_R_isLetter : Int32 → M Int32) (f_R_isMarkSign : Int32 → M Int32) (f_R_raw : Int32 → M Int32) (f_R_wordAt : Int32 → Int32 → M Int32) : wf (β := Unit) L X q_R_reads 0 (cs_R_reads f_R_isDigit f_R_isLetter f_R_isMarkSign f_R_raw f_R_wordAt) [] [0, 39, 95, 123, 171, 239] (fun _ _ _ => fl) (fun v => match v with | none => rt () | _ => fl) 148 123 [(112, .ref 207), (0, dV)] [] = (bn (rd 207 16) fun v1 =>
  bn (rd 207 15) fun v2 =>
  bn (f_R_wordAt v1 v2) fun v3 =>
  bn (wr 207 18 v3) fun _ =>
  bn (rd 207 18) fun v4 =>
  (if v4 = (-1 : Int32) then
    rt ()
  else
    bn (wr 207 17 (2 : Int32)) fun _ =>
    rt ())) := rfl
theorem s_R_reads_123 {d : Nat} (hcs : AllS L X d (cs_R_reads F_R_isDigit F_R_isLetter F_R_isMarkSign F_R_raw F_R_wordAt)) {o : Option Value × PH} {Q : (Unit) → MI → Prop} (q0 : ∀ v I, Q v I → o = (none, HH I)) (I : MI) (r : Unit) (I1 : MI) (h : K_R_reads_123 I = some (r, I1)) (hq : Q r I1) : At L X (d + 1) 207 123 [(112, .ref 207), (0, dV)] [] I o := by
  refine wf_ok z_R_reads hcs ?_ ?_ _ _ _ _ _ ⟨rfl, trivial, trivial⟩ trivial (unm_refl _ _) ((congrFun (e_s_R_reads_123 (L := L) (X := X) F_R_isDigit F_R_isLetter F_R_isMarkSign F_R_raw F_R_wordAt) I).trans h)
  · intro pc ls st I2 h1 h2 h3 h
    cases h
  · intro v I2 _ h
    split at h
    · cases h; exact q0 _ _ hq
    · cases h
def K_R_reads_95 : M (Unit) :=
  bn (lp (B_R_reads_95) FU ()) fun e => K_R_reads_123
theorem s_R_reads_95 {d : Nat} (hcs : AllS L X d (cs_R_reads F_R_isDigit F_R_isLetter F_R_isMarkSign F_R_raw F_R_wordAt)) {o : Option Value × PH} {Q : (Unit) → MI → Prop} (q0 : ∀ v I, Q v I → o = (none, HH I)) (I : MI) (r : Unit) (I1 : MI) (h : K_R_reads_95 I = some (r, I1)) (hq : Q r I1) : At L X (d + 1) 207 95 [(112, .ref 207), (0, dV)] [] I o := by
  unfold K_R_reads_95 at h
  obtain ⟨e, I2, h1, h2⟩ := bn_some h
  have w0 := fun w => at_lp (body := B_R_reads_95) (P := (fun (y : Unit) I => At L X (d + 1) 207 95 [(112, .ref 207), (0, dV)] [] I o)) (Q := (fun (e : (Unit)) I => (K_R_reads_123) I = some (r, I1))) w FU () I e I2 h1 h2
  refine w0 ?_
  intro y I r2 I3 h hq2
  exact b_R_reads_95 hcs (Q := SQ (fun (y : Unit) I => At L X (d + 1) 207 95 [(112, .ref 207), (0, dV)] [] I o) (fun (e : (Unit)) I => (K_R_reads_123) I = some (r, I1))) (fun _ _ w => w) (fun y I w => s_R_reads_123 hcs q0 _ _ _ w hq) y I r2 I3 h hq2
def B_R_reads_171 (y : Unit) : M ((Unit) ⊕ ((Unit))) :=
  bn (rd 207 15) fun v1 =>
  bn (F_R_raw v1) fun v2 =>
  bn (F_R_isDigit v2) fun v3 =>
  (if v3 = 0 then
    rt (.inr ())
  else
    bn (rd 207 18) fun v4 =>
    (if v4 < (10000 : Int32) then
      bn (rd 207 18) fun v7 =>
      bn (rd 207 15) fun v8 =>
      bn (F_R_raw v8) fun v9 =>
      bn (wr 207 18 ((((10 : Int32) * v7) + v9) - (48 : Int32))) fun _ =>
      bn (rd 207 15) fun v10 =>
      bn (wr 207 15 (v10 + (1 : Int32))) fun _ =>
      rt (.inl ())
    else
      bn (rd 207 18) fun v5 =>
      bn (wr 207 18 v5) fun _ =>
      bn (rd 207 15) fun v6 =>
      bn (wr 207 15 (v6 + (1 : Int32))) fun _ =>
      rt (.inl ())))
set_option maxRecDepth 4000 in
theorem e_b_R_reads_171 (f_R_isDigit : Int32 → M Int32) (f_R_isLetter : Int32 → M Int32) (f_R_isMarkSign : Int32 → M Int32) (f_R_raw : Int32 → M Int32) (f_R_wordAt : Int32 → Int32 → M Int32) (y : Unit) : wf (β := (Unit) ⊕ ((Unit))) L X q_R_reads 0 (cs_R_reads f_R_isDigit f_R_isLetter f_R_isMarkSign f_R_raw f_R_wordAt) [] [0, 39, 95, 123, 171, 239] (fun pc ls st => mC (Nat.beq pc 171) (mN st <| gD ls 1 <| rt (.inl ())) (mC (Nat.beq pc 239) (mN st <| gD ls 1 <| rt (.inr ())) (fl))) (fun _ => fl) 148 171 [(112, .ref 207), (0, dV)] [] = (bn (rd 207 15) fun v1 =>
  bn (f_R_raw v1) fun v2 =>
  bn (f_R_isDigit v2) fun v3 =>
  (if v3 = 0 then
    rt (.inr ())
  else
    bn (rd 207 18) fun v4 =>
    (if v4 < (10000 : Int32) then
      bn (rd 207 18) fun v7 =>
      bn (rd 207 15) fun v8 =>
      bn (f_R_raw v8) fun v9 =>
      bn (wr 207 18 ((((10 : Int32) * v7) + v9) - (48 : Int32))) fun _ =>
      bn (rd 207 15) fun v10 =>
      bn (wr 207 15 (v10 + (1 : Int32))) fun _ =>
      rt (.inl ())
    else
      bn (rd 207 18) fun v5 =>
      bn (wr 207 18 v5) fun _ =>
      bn (rd 207 15) fun v6 =>
      bn (wr 207 15 (v6 + (1 : Int32))) fun _ =>
      rt (.inl ())))) := rfl
theorem b_R_reads_171 {d : Nat} (hcs : AllS L X d (cs_R_reads F_R_isDigit F_R_isLetter F_R_isMarkSign F_R_raw F_R_wordAt)) {o : Option Value × PH} {Q : ((Unit) ⊕ ((Unit))) → MI → Prop} (qb : ∀ y I, Q (.inl y) I → At L X (d + 1) 207 171 [(112, .ref 207), (0, dV)] [] I o) (qe239 : ∀ y I, Q (.inr y) I → At L X (d + 1) 207 239 [(112, .ref 207), (0, dV)] [] I o) (y : Unit) (I : MI) (r : (Unit) ⊕ ((Unit))) (I1 : MI) (h : B_R_reads_171 y I = some (r, I1)) (hq : Q r I1) : At L X (d + 1) 207 171 [(112, .ref 207), (0, dV)] [] I o := by
  refine wf_ok z_R_reads hcs ?_ ?_ _ _ _ _ _ ⟨rfl, trivial, trivial⟩ trivial (unm_refl _ _) ((congrFun (e_b_R_reads_171 (L := L) (X := X) F_R_isDigit F_R_isLetter F_R_isMarkSign F_R_raw F_R_wordAt y) I).trans h)
  · intro pc ls st I2 h1 h2 h3 h
    rcases mC_ok h with ⟨hb, h⟩ | ⟨_, h⟩
    · have e := Nat.eq_of_beq_eq_true hb
      subst e
      obtain ⟨hst, h⟩ := mN_ok h
      subst hst
      obtain ⟨n1, h⟩ := gD_ok h
      refine at_leaf (ls2 := [(112, .ref 207), (0, dV)]) h3.1 ⟨Or.inr ⟨_, (h3.2 0 rfl).trans rfl⟩, Or.inl ⟨rfl, n1⟩, trivial⟩ ?_
      cases h; exact qb _ _ hq
    rcases mC_ok h with ⟨hb, h⟩ | ⟨_, h⟩
    · have e := Nat.eq_of_beq_eq_true hb
      subst e
      obtain ⟨hst, h⟩ := mN_ok h
      subst hst
      obtain ⟨n1, h⟩ := gD_ok h
      refine at_leaf (ls2 := [(112, .ref 207), (0, dV)]) h3.1 ⟨Or.inr ⟨_, (h3.2 0 rfl).trans rfl⟩, Or.inl ⟨rfl, n1⟩, trivial⟩ ?_
      cases h; exact qe239 _ _ hq
    cases h
  · intro v I2 _ h
    cases h
def K_R_reads_239 : M (Unit) :=
  bn (rd 207 15) fun v1 =>
  bn (rd 207 16) fun v2 =>
  (if (v1 - v2) < (5 : Int32) then
    bn (wr 207 17 (3 : Int32)) fun _ =>
    rt ()
  else
    rt ())
set_option maxRecDepth 4000 in
theorem e_s_R_reads_239 (f_R_isDigit : Int32 → M Int32) (f_R_isLetter : Int32 → M Int32) (f_R_isMarkSign : Int32 → M Int32) (f_R_raw : Int32 → M Int32) (f_R_wordAt : Int32 → Int32 → M Int32) : wf (β := Unit) L X q_R_reads 0 (cs_R_reads f_R_isDigit f_R_isLetter f_R_isMarkSign f_R_raw f_R_wordAt) [] [0, 39, 95, 123, 171, 239] (fun _ _ _ => fl) (fun v => match v with | none => rt () | _ => fl) 148 239 [(112, .ref 207), (0, dV)] [] = (bn (rd 207 15) fun v1 =>
  bn (rd 207 16) fun v2 =>
  (if (v1 - v2) < (5 : Int32) then
    bn (wr 207 17 (3 : Int32)) fun _ =>
    rt ()
  else
    rt ())) := rfl
theorem s_R_reads_239 {d : Nat} (hcs : AllS L X d (cs_R_reads F_R_isDigit F_R_isLetter F_R_isMarkSign F_R_raw F_R_wordAt)) {o : Option Value × PH} {Q : (Unit) → MI → Prop} (q0 : ∀ v I, Q v I → o = (none, HH I)) (I : MI) (r : Unit) (I1 : MI) (h : K_R_reads_239 I = some (r, I1)) (hq : Q r I1) : At L X (d + 1) 207 239 [(112, .ref 207), (0, dV)] [] I o := by
  refine wf_ok z_R_reads hcs ?_ ?_ _ _ _ _ _ ⟨rfl, trivial, trivial⟩ trivial (unm_refl _ _) ((congrFun (e_s_R_reads_239 (L := L) (X := X) F_R_isDigit F_R_isLetter F_R_isMarkSign F_R_raw F_R_wordAt) I).trans h)
  · intro pc ls st I2 h1 h2 h3 h
    cases h
  · intro v I2 _ h
    split at h
    · cases h; exact q0 _ _ hq
    · cases h
def K_R_reads_171 : M (Unit) :=
  bn (lp (B_R_reads_171) FU ()) fun e => K_R_reads_239
theorem s_R_reads_171 {d : Nat} (hcs : AllS L X d (cs_R_reads F_R_isDigit F_R_isLetter F_R_isMarkSign F_R_raw F_R_wordAt)) {o : Option Value × PH} {Q : (Unit) → MI → Prop} (q0 : ∀ v I, Q v I → o = (none, HH I)) (I : MI) (r : Unit) (I1 : MI) (h : K_R_reads_171 I = some (r, I1)) (hq : Q r I1) : At L X (d + 1) 207 171 [(112, .ref 207), (0, dV)] [] I o := by
  unfold K_R_reads_171 at h
  obtain ⟨e, I2, h1, h2⟩ := bn_some h
  have w0 := fun w => at_lp (body := B_R_reads_171) (P := (fun (y : Unit) I => At L X (d + 1) 207 171 [(112, .ref 207), (0, dV)] [] I o)) (Q := (fun (e : (Unit)) I => (K_R_reads_239) I = some (r, I1))) w FU () I e I2 h1 h2
  refine w0 ?_
  intro y I r2 I3 h hq2
  exact b_R_reads_171 hcs (Q := SQ (fun (y : Unit) I => At L X (d + 1) 207 171 [(112, .ref 207), (0, dV)] [] I o) (fun (e : (Unit)) I => (K_R_reads_239) I = some (r, I1))) (fun _ _ w => w) (fun y I w => s_R_reads_239 hcs q0 _ _ _ w hq) y I r2 I3 h hq2
def K_R_reads_39 : M (Unit) :=
  bn (rd 207 15) fun v1 =>
  bn (wr 207 16 v1) fun _ =>
  bn (wr 207 17 (1 : Int32)) fun _ =>
  bn (rd 207 15) fun v2 =>
  bn (F_R_raw v2) fun v3 =>
  (if v3 = (-1 : Int32) then
    bn (wr 207 17 (0 : Int32)) fun _ =>
    rt ()
  else
    bn (rd 207 15) fun v4 =>
    bn (wr 207 15 (v4 + (1 : Int32))) fun _ =>
    bn (wr 207 18 v3) fun _ =>
    bn (F_R_isLetter v3) fun v5 =>
    (if v5 = 0 then
      bn (F_R_isDigit v3) fun v6 =>
      (if v6 = 0 then
        bn (F_R_isMarkSign v3) fun v7 =>
        (if v7 = 0 then
          rt ()
        else
          bn (wr 207 17 (4 : Int32)) fun _ =>
          rt ())
      else
        bn (wr 207 18 (v3 - (48 : Int32))) fun _ =>
        K_R_reads_171)
    else
      K_R_reads_95))
set_option maxRecDepth 4000 in
theorem e_s_R_reads_39 (f_R_isDigit : Int32 → M Int32) (f_R_isLetter : Int32 → M Int32) (f_R_isMarkSign : Int32 → M Int32) (f_R_raw : Int32 → M Int32) (f_R_wordAt : Int32 → Int32 → M Int32) (k_95 : M (Unit)) (k_171 : M (Unit)) : wf (β := Unit) L X q_R_reads 0 (cs_R_reads f_R_isDigit f_R_isLetter f_R_isMarkSign f_R_raw f_R_wordAt) [1] [0, 39, 95, 123, 171, 239] (fun pc ls st => mC (Nat.beq pc 95) (mN st <| gD ls 1 <| k_95) (mC (Nat.beq pc 171) (mN st <| gD ls 1 <| k_171) (fl))) (fun v => match v with | none => rt () | _ => fl) 148 39 [(112, .ref 207), (0, dV)] [] = (bn (rd 207 15) fun v1 =>
  bn (wr 207 16 v1) fun _ =>
  bn (wr 207 17 (1 : Int32)) fun _ =>
  bn (rd 207 15) fun v2 =>
  bn (f_R_raw v2) fun v3 =>
  (if v3 = (-1 : Int32) then
    bn (wr 207 17 (0 : Int32)) fun _ =>
    rt ()
  else
    bn (rd 207 15) fun v4 =>
    bn (wr 207 15 (v4 + (1 : Int32))) fun _ =>
    bn (wr 207 18 v3) fun _ =>
    bn (f_R_isLetter v3) fun v5 =>
    (if v5 = 0 then
      bn (f_R_isDigit v3) fun v6 =>
      (if v6 = 0 then
        bn (f_R_isMarkSign v3) fun v7 =>
        (if v7 = 0 then
          rt ()
        else
          bn (wr 207 17 (4 : Int32)) fun _ =>
          rt ())
      else
        bn (wr 207 18 (v3 - (48 : Int32))) fun _ =>
        k_171)
    else
      k_95))) := rfl
theorem s_R_reads_39 {d : Nat} (hcs : AllS L X d (cs_R_reads F_R_isDigit F_R_isLetter F_R_isMarkSign F_R_raw F_R_wordAt)) {o : Option Value × PH} {Q : (Unit) → MI → Prop} (q0 : ∀ v I, Q v I → o = (none, HH I)) (I : MI) (r : Unit) (I1 : MI) (h : K_R_reads_39 I = some (r, I1)) (hq : Q r I1) : At L X (d + 1) 207 39 [(112, .ref 207), (0, dV)] [] I o := by
  refine wf_ok z_R_reads hcs ?_ ?_ _ _ _ _ _ ⟨rfl, trivial, trivial⟩ trivial (unm_refl _ _) ((congrFun (e_s_R_reads_39 (L := L) (X := X) F_R_isDigit F_R_isLetter F_R_isMarkSign F_R_raw F_R_wordAt K_R_reads_95 K_R_reads_171) I).trans h)
  · intro pc ls st I2 h1 h2 h3 h
    rcases mC_ok h with ⟨hb, h⟩ | ⟨_, h⟩
    · have e := Nat.eq_of_beq_eq_true hb
      subst e
      obtain ⟨hst, h⟩ := mN_ok h
      subst hst
      obtain ⟨n1, h⟩ := gD_ok h
      refine at_leaf (ls2 := [(112, .ref 207), (0, dV)]) h3.1 ⟨Or.inr ⟨_, (h3.2 0 rfl).trans rfl⟩, Or.inl ⟨rfl, n1⟩, trivial⟩ ?_
      exact s_R_reads_95 hcs q0 _ _ _ h hq
    rcases mC_ok h with ⟨hb, h⟩ | ⟨_, h⟩
    · have e := Nat.eq_of_beq_eq_true hb
      subst e
      obtain ⟨hst, h⟩ := mN_ok h
      subst hst
      obtain ⟨n1, h⟩ := gD_ok h
      refine at_leaf (ls2 := [(112, .ref 207), (0, dV)]) h3.1 ⟨Or.inr ⟨_, (h3.2 0 rfl).trans rfl⟩, Or.inl ⟨rfl, n1⟩, trivial⟩ ?_
      exact s_R_reads_171 hcs q0 _ _ _ h hq
    cases h
  · intro v I2 _ h
    split at h
    · cases h; exact q0 _ _ hq
    · cases h
def F_R_reads : M (Unit) :=
  bn (lp (B_R_reads_0) FU ()) fun e => K_R_reads_39
theorem s_R_reads_0 {d : Nat} (hcs : AllS L X d (cs_R_reads F_R_isDigit F_R_isLetter F_R_isMarkSign F_R_raw F_R_wordAt)) {o : Option Value × PH} {Q : (Unit) → MI → Prop} (q0 : ∀ v I, Q v I → o = (none, HH I)) (I : MI) (r : Unit) (I1 : MI) (h : F_R_reads I = some (r, I1)) (hq : Q r I1) : At L X (d + 1) 207 0 [(112, .ref 207), (0, dV)] [] I o := by
  unfold F_R_reads at h
  obtain ⟨e, I2, h1, h2⟩ := bn_some h
  have w0 := fun w => at_lp (body := B_R_reads_0) (P := (fun (y : Unit) I => At L X (d + 1) 207 0 [(112, .ref 207), (0, dV)] [] I o)) (Q := (fun (e : (Unit)) I => (K_R_reads_39) I = some (r, I1))) w FU () I e I2 h1 h2
  refine w0 ?_
  intro y I r2 I3 h hq2
  exact b_R_reads_0 hcs (Q := SQ (fun (y : Unit) I => At L X (d + 1) 207 0 [(112, .ref 207), (0, dV)] [] I o) (fun (e : (Unit)) I => (K_R_reads_39) I = some (r, I1))) (fun _ _ w => w) (fun y I w => s_R_reads_39 hcs q0 _ _ _ w hq) y I r2 I3 h hq2
theorem w_R_reads {d : Nat} (hcs : AllS L X d (cs_R_reads F_R_isDigit F_R_isLetter F_R_isMarkSign F_R_raw F_R_wordAt)) : Snd L X (d + 1) 207 1 (W_R_reads F_R_reads) := by
  refine ⟨_, z_R_reads, rfl, fun β args k I r hty hlen h => ?_⟩
  unfold W_R_reads at h
  split at h
  · rename_i t0 a0
    obtain ⟨hb0, h⟩ := mB_ok h
    have e0 := Nat.eq_of_beq_eq_true hb0
    have g0 : okB 112 a0 = true := e0 ▸ hty.1
    have e20 := one_112 g0
    subst e20
    obtain ⟨v, I1, h1, h2⟩ := bn_some h
    refine ⟨gf_obj (c := 12) (by decide) g0, rfl, none, I1, trivial, ?_, h2⟩
    exact s_R_reads_0 hcs   (Q := fun w I => w = v ∧ I = I1) (fun w I q => by obtain ⟨rfl, rfl⟩ := q; rfl) I v I1 h1 ⟨rfl, rfl⟩
  · cases h
theorem S_R_reads {d : Nat} (hd : 3 ≤ d) : Snd L X d 207 1 (W_R_reads F_R_reads) := by
  obtain ⟨e, rfl⟩ : ∃ e, d = e + 1 := ⟨d - 1, by omega⟩
  exact w_R_reads ⟨S_R_isDigit (by omega), S_R_isLetter (by omega), S_R_isMarkSign (by omega), S_R_raw (by omega), S_R_wordAt (by omega), trivial⟩
set_option maxRecDepth 100000 in
theorem z_R_readNumber : pT[218]? = some (q_R_readNumber, 3, 4, 1, 12) := rfl
def W_R_readNumber (F : Int32 → Int32 → M Int32) : CSem := fun _ args k => match args with
  | [(t0, .ref a0), (_, .int a1), (_, .int a2)] => mB (Nat.beq t0 112) <| bn (F a1 a2) fun v => k (some (0, .int v))
  | _ => fl
def cs_R_readNumber (f_R_errs : Int32 → M Int32) (f_R_isIn : Int32 → Int32 → Int32 → M Int32) (f_R_reads : M Unit) : List (Nat × Nat × CSem) := [(215, 2, W_R_errs f_R_errs), (195, 4, W_R_isIn f_R_isIn), (207, 1, W_R_reads f_R_reads)]
def F_R_readNumber (x1 : Int32) (x2 : Int32) : M (Int32) :=
  bn (rd 207 17) fun v1 =>
  (if v1 = (3 : Int32) then
    bn (rd 207 18) fun v2 =>
    bn (F_R_isIn v2 x1 x2) fun v3 =>
    (if v3 = 0 then
      bn (F_R_errs (2 : Int32)) fun v5 =>
      rt v5
    else
      bn (rd 207 18) fun v4 =>
      bn (F_R_reads) fun _ =>
      rt v4)
  else
    bn (F_R_errs (1 : Int32)) fun v6 =>
    rt v6)
set_option maxRecDepth 4000 in
theorem e_s_R_readNumber_0 (f_R_errs : Int32 → M Int32) (f_R_isIn : Int32 → Int32 → Int32 → M Int32) (f_R_reads : M Unit) (x1 : Int32) (x2 : Int32) : wf (β := Int32) L X q_R_readNumber 1 (cs_R_readNumber f_R_errs f_R_isIn f_R_reads) [3] [] (fun _ _ _ => fl) (fun v => match v with | some (_, .int x) => rt x | _ => fl) 31 0 [(112, .ref 207), (0, .int x1), (0, .int x2), (0, dV)] [] = (bn (rd 207 17) fun v1 =>
  (if v1 = (3 : Int32) then
    bn (rd 207 18) fun v2 =>
    bn (f_R_isIn v2 x1 x2) fun v3 =>
    (if v3 = 0 then
      bn (f_R_errs (2 : Int32)) fun v5 =>
      rt v5
    else
      bn (rd 207 18) fun v4 =>
      bn (f_R_reads) fun _ =>
      rt v4)
  else
    bn (f_R_errs (1 : Int32)) fun v6 =>
    rt v6)) := rfl
theorem s_R_readNumber_0 {d : Nat} (hcs : AllS L X d (cs_R_readNumber F_R_errs F_R_isIn F_R_reads)) (x1 : Int32) (x2 : Int32) {o : Option Value × PH} {Q : (Int32) → MI → Prop} (q0 : ∀ v I, Q v I → o = (some (.int v), HH I)) (I : MI) (r : Int32) (I1 : MI) (h : F_R_readNumber x1 x2 I = some (r, I1)) (hq : Q r I1) : At L X (d + 1) 218 0 [(112, .ref 207), (0, .int x1), (0, .int x2), (0, dV)] [] I o := by
  refine wf_ok z_R_readNumber hcs ?_ ?_ _ _ _ _ _ ⟨rfl, trivial, trivial, trivial, trivial⟩ trivial (unm_refl _ _) ((congrFun (e_s_R_readNumber_0 (L := L) (X := X) F_R_errs F_R_isIn F_R_reads x1 x2) I).trans h)
  · intro pc ls st I2 h1 h2 h3 h
    cases h
  · intro v I2 _ h
    split at h
    · cases h; exact q0 _ _ hq
    · cases h
theorem w_R_readNumber {d : Nat} (hcs : AllS L X d (cs_R_readNumber F_R_errs F_R_isIn F_R_reads)) : Snd L X (d + 1) 218 3 (W_R_readNumber F_R_readNumber) := by
  refine ⟨_, z_R_readNumber, rfl, fun β args k I r hty hlen h => ?_⟩
  unfold W_R_readNumber at h
  split at h
  · rename_i t0 a0 u1 a1 u2 a2
    obtain ⟨hb0, h⟩ := mB_ok h
    have e0 := Nat.eq_of_beq_eq_true hb0
    have g0 : okB 112 a0 = true := e0 ▸ hty.1
    have e20 := one_112 g0
    subst e20
    obtain ⟨v, I1, h1, h2⟩ := bn_some h
    refine ⟨gf_obj (c := 12) (by decide) g0, rfl, some (0, .int v), I1, trivial, ?_, h2⟩
    exact s_R_readNumber_0 hcs a1 a2  (Q := fun w I => w = v ∧ I = I1) (fun w I q => by obtain ⟨rfl, rfl⟩ := q; rfl) I v I1 h1 ⟨rfl, rfl⟩
  · cases h
theorem S_R_readNumber {d : Nat} (hd : 4 ≤ d) : Snd L X d 218 3 (W_R_readNumber F_R_readNumber) := by
  obtain ⟨e, rfl⟩ : ∃ e, d = e + 1 := ⟨d - 1, by omega⟩
  exact w_R_readNumber ⟨S_R_errs (by omega), S_R_isIn (by omega), S_R_reads (by omega), trivial⟩
set_option maxRecDepth 100000 in
theorem z_R_readDeedMore : pT[225]? = some (q_R_readDeedMore, 2, 2, 1, 12) := rfl
def W_R_readDeedMore (F : Int32 → M Int32) : CSem := fun _ args k => match args with
  | [(t0, .ref a0), (_, .int a1)] => mB (Nat.beq t0 112) <| bn (F a1) fun v => k (some (0, .int v))
  | _ => fl
def cs_R_readDeedMore (f_R_readNumber : Int32 → Int32 → M Int32) : List (Nat × Nat × CSem) := [(218, 3, W_R_readNumber f_R_readNumber)]
def F_R_readDeedMore (x1 : Int32) : M (Int32) :=
  (if x1 = (2 : Int32) then
    rt (0 : Int32)
  else
    (if x1 = (1 : Int32) then
      bn (F_R_readNumber (1 : Int32) (999 : Int32)) fun v2 =>
      rt v2
    else
      bn (F_R_readNumber (0 : Int32) (9 : Int32)) fun v1 =>
      rt v1))
set_option maxRecDepth 4000 in
theorem e_s_R_readDeedMore_0 (f_R_readNumber : Int32 → Int32 → M Int32) (x1 : Int32) : wf (β := Int32) L X q_R_readDeedMore 1 (cs_R_readDeedMore f_R_readNumber) [] [] (fun _ _ _ => fl) (fun v => match v with | some (_, .int x) => rt x | _ => fl) 23 0 [(112, .ref 207), (0, .int x1)] [] = ((if x1 = (2 : Int32) then
    rt (0 : Int32)
  else
    (if x1 = (1 : Int32) then
      bn (f_R_readNumber (1 : Int32) (999 : Int32)) fun v2 =>
      rt v2
    else
      bn (f_R_readNumber (0 : Int32) (9 : Int32)) fun v1 =>
      rt v1))) := rfl
theorem s_R_readDeedMore_0 {d : Nat} (hcs : AllS L X d (cs_R_readDeedMore F_R_readNumber)) (x1 : Int32) {o : Option Value × PH} {Q : (Int32) → MI → Prop} (q0 : ∀ v I, Q v I → o = (some (.int v), HH I)) (I : MI) (r : Int32) (I1 : MI) (h : F_R_readDeedMore x1 I = some (r, I1)) (hq : Q r I1) : At L X (d + 1) 225 0 [(112, .ref 207), (0, .int x1)] [] I o := by
  refine wf_ok z_R_readDeedMore hcs ?_ ?_ _ _ _ _ _ ⟨rfl, trivial, trivial⟩ trivial (unm_refl _ _) ((congrFun (e_s_R_readDeedMore_0 (L := L) (X := X) F_R_readNumber x1) I).trans h)
  · intro pc ls st I2 h1 h2 h3 h
    cases h
  · intro v I2 _ h
    split at h
    · cases h; exact q0 _ _ hq
    · cases h
theorem w_R_readDeedMore {d : Nat} (hcs : AllS L X d (cs_R_readDeedMore F_R_readNumber)) : Snd L X (d + 1) 225 2 (W_R_readDeedMore F_R_readDeedMore) := by
  refine ⟨_, z_R_readDeedMore, rfl, fun β args k I r hty hlen h => ?_⟩
  unfold W_R_readDeedMore at h
  split at h
  · rename_i t0 a0 u1 a1
    obtain ⟨hb0, h⟩ := mB_ok h
    have e0 := Nat.eq_of_beq_eq_true hb0
    have g0 : okB 112 a0 = true := e0 ▸ hty.1
    have e20 := one_112 g0
    subst e20
    obtain ⟨v, I1, h1, h2⟩ := bn_some h
    refine ⟨gf_obj (c := 12) (by decide) g0, rfl, some (0, .int v), I1, trivial, ?_, h2⟩
    exact s_R_readDeedMore_0 hcs a1  (Q := fun w I => w = v ∧ I = I1) (fun w I q => by obtain ⟨rfl, rfl⟩ := q; rfl) I v I1 h1 ⟨rfl, rfl⟩
  · cases h
theorem S_R_readDeedMore {d : Nat} (hd : 5 ≤ d) : Snd L X d 225 2 (W_R_readDeedMore F_R_readDeedMore) := by
  obtain ⟨e, rfl⟩ : ∃ e, d = e + 1 := ⟨d - 1, by omega⟩
  exact w_R_readDeedMore ⟨S_R_readNumber (by omega), trivial⟩
set_option maxRecDepth 100000 in
theorem z_R_isSign : pT[220]? = some (q_R_isSign, 2, 2, 2, 12) := rfl
def W_R_isSign (F : Int32 → M Int32) : CSem := fun _ args k => match args with
  | [(t0, .ref a0), (_, .int a1)] => mB (Nat.beq t0 112) <| bn (F a1) fun v => k (some (0, .int v))
  | _ => fl
def cs_R_isSign : List (Nat × Nat × CSem) := []
def F_R_isSign (x1 : Int32) : M (Int32) :=
  bn (rd 207 17) fun v1 =>
  (if v1 = (4 : Int32) then
    bn (rd 207 18) fun v2 =>
    (if v2 = x1 then
      bn (gdZ (1 : Int32)) fun _ => rt (1 : Int32)
    else
      bn (gdZ (0 : Int32)) fun _ => rt (0 : Int32))
  else
    bn (gdZ (0 : Int32)) fun _ => rt (0 : Int32))
set_option maxRecDepth 4000 in
theorem e_s_R_isSign_0 (x1 : Int32) : wf (β := Int32) L X q_R_isSign 2 cs_R_isSign [] [] (fun _ _ _ => fl) (fun v => match v with | some (_, .int x) => rt x | _ => fl) 17 0 [(112, .ref 207), (0, .int x1)] [] = (bn (rd 207 17) fun v1 =>
  (if v1 = (4 : Int32) then
    bn (rd 207 18) fun v2 =>
    (if v2 = x1 then
      bn (gdZ (1 : Int32)) fun _ => rt (1 : Int32)
    else
      bn (gdZ (0 : Int32)) fun _ => rt (0 : Int32))
  else
    bn (gdZ (0 : Int32)) fun _ => rt (0 : Int32))) := rfl
theorem s_R_isSign_0 {d : Nat} (hcs : AllS L X d cs_R_isSign) (x1 : Int32) {o : Option Value × PH} {Q : (Int32) → MI → Prop} (q0 : ∀ v I, Q v I → o = (some (.int v), HH I)) (I : MI) (r : Int32) (I1 : MI) (h : F_R_isSign x1 I = some (r, I1)) (hq : Q r I1) : At L X (d + 1) 220 0 [(112, .ref 207), (0, .int x1)] [] I o := by
  refine wf_ok z_R_isSign hcs ?_ ?_ _ _ _ _ _ ⟨rfl, trivial, trivial⟩ trivial (unm_refl _ _) ((congrFun (e_s_R_isSign_0 (L := L) (X := X) x1) I).trans h)
  · intro pc ls st I2 h1 h2 h3 h
    cases h
  · intro v I2 _ h
    split at h
    · cases h; exact q0 _ _ hq
    · cases h
theorem w_R_isSign {d : Nat} (hcs : AllS L X d cs_R_isSign) : Snd L X (d + 1) 220 2 (W_R_isSign F_R_isSign) := by
  refine ⟨_, z_R_isSign, rfl, fun β args k I r hty hlen h => ?_⟩
  unfold W_R_isSign at h
  split at h
  · rename_i t0 a0 u1 a1
    obtain ⟨hb0, h⟩ := mB_ok h
    have e0 := Nat.eq_of_beq_eq_true hb0
    have g0 : okB 112 a0 = true := e0 ▸ hty.1
    have e20 := one_112 g0
    subst e20
    obtain ⟨v, I1, h1, h2⟩ := bn_some h
    refine ⟨gf_obj (c := 12) (by decide) g0, rfl, some (0, .int v), I1, trivial, ?_, h2⟩
    exact s_R_isSign_0 hcs a1  (Q := fun w I => w = v ∧ I = I1) (fun w I q => by obtain ⟨rfl, rfl⟩ := q; rfl) I v I1 h1 ⟨rfl, rfl⟩
  · cases h
theorem S_R_isSign {d : Nat} (hd : 1 ≤ d) : Snd L X d 220 2 (W_R_isSign F_R_isSign) := by
  obtain ⟨e, rfl⟩ : ∃ e, d = e + 1 := ⟨d - 1, by omega⟩
  exact w_R_isSign trivial
set_option maxRecDepth 100000 in
theorem z_R_readMark : pT[219]? = some (q_R_readMark, 2, 2, 1, 12) := rfl
def W_R_readMark (F : Int32 → M Int32) : CSem := fun _ args k => match args with
  | [(t0, .ref a0), (_, .int a1)] => mB (Nat.beq t0 112) <| bn (F a1) fun v => k (some (0, .int v))
  | _ => fl
def cs_R_readMark (f_R_errs : Int32 → M Int32) (f_R_isSign : Int32 → M Int32) (f_R_reads : M Unit) : List (Nat × Nat × CSem) := [(215, 2, W_R_errs f_R_errs), (220, 2, W_R_isSign f_R_isSign), (207, 1, W_R_reads f_R_reads)]
def F_R_readMark (x1 : Int32) : M (Int32) :=
  bn (F_R_isSign x1) fun v1 =>
  (if v1 = 0 then
    bn (F_R_errs (1 : Int32)) fun v2 =>
    rt v2
  else
    bn (F_R_reads) fun _ =>
    rt (0 : Int32))
set_option maxRecDepth 4000 in
theorem e_s_R_readMark_0 (f_R_errs : Int32 → M Int32) (f_R_isSign : Int32 → M Int32) (f_R_reads : M Unit) (x1 : Int32) : wf (β := Int32) L X q_R_readMark 1 (cs_R_readMark f_R_errs f_R_isSign f_R_reads) [] [] (fun _ _ _ => fl) (fun v => match v with | some (_, .int x) => rt x | _ => fl) 17 0 [(112, .ref 207), (0, .int x1)] [] = (bn (f_R_isSign x1) fun v1 =>
  (if v1 = 0 then
    bn (f_R_errs (1 : Int32)) fun v2 =>
    rt v2
  else
    bn (f_R_reads) fun _ =>
    rt (0 : Int32))) := rfl
theorem s_R_readMark_0 {d : Nat} (hcs : AllS L X d (cs_R_readMark F_R_errs F_R_isSign F_R_reads)) (x1 : Int32) {o : Option Value × PH} {Q : (Int32) → MI → Prop} (q0 : ∀ v I, Q v I → o = (some (.int v), HH I)) (I : MI) (r : Int32) (I1 : MI) (h : F_R_readMark x1 I = some (r, I1)) (hq : Q r I1) : At L X (d + 1) 219 0 [(112, .ref 207), (0, .int x1)] [] I o := by
  refine wf_ok z_R_readMark hcs ?_ ?_ _ _ _ _ _ ⟨rfl, trivial, trivial⟩ trivial (unm_refl _ _) ((congrFun (e_s_R_readMark_0 (L := L) (X := X) F_R_errs F_R_isSign F_R_reads x1) I).trans h)
  · intro pc ls st I2 h1 h2 h3 h
    cases h
  · intro v I2 _ h
    split at h
    · cases h; exact q0 _ _ hq
    · cases h
theorem w_R_readMark {d : Nat} (hcs : AllS L X d (cs_R_readMark F_R_errs F_R_isSign F_R_reads)) : Snd L X (d + 1) 219 2 (W_R_readMark F_R_readMark) := by
  refine ⟨_, z_R_readMark, rfl, fun β args k I r hty hlen h => ?_⟩
  unfold W_R_readMark at h
  split at h
  · rename_i t0 a0 u1 a1
    obtain ⟨hb0, h⟩ := mB_ok h
    have e0 := Nat.eq_of_beq_eq_true hb0
    have g0 : okB 112 a0 = true := e0 ▸ hty.1
    have e20 := one_112 g0
    subst e20
    obtain ⟨v, I1, h1, h2⟩ := bn_some h
    refine ⟨gf_obj (c := 12) (by decide) g0, rfl, some (0, .int v), I1, trivial, ?_, h2⟩
    exact s_R_readMark_0 hcs a1  (Q := fun w I => w = v ∧ I = I1) (fun w I q => by obtain ⟨rfl, rfl⟩ := q; rfl) I v I1 h1 ⟨rfl, rfl⟩
  · cases h
theorem S_R_readMark {d : Nat} (hd : 4 ≤ d) : Snd L X d 219 2 (W_R_readMark F_R_readMark) := by
  obtain ⟨e, rfl⟩ : ∃ e, d = e + 1 := ⟨d - 1, by omega⟩
  exact w_R_readMark ⟨S_R_errs (by omega), S_R_isSign (by omega), S_R_reads (by omega), trivial⟩
set_option maxRecDepth 100000 in
theorem z_R_readTold : pT[217]? = some (q_R_readTold, 4, 4, 1, 12) := rfl
def W_R_readTold (F : Int32 → Int32 → Int32 → M Int32) : CSem := fun _ args k => match args with
  | [(t0, .ref a0), (_, .int a1), (_, .int a2), (_, .int a3)] => mB (Nat.beq t0 112) <| bn (F a1 a2 a3) fun v => k (some (0, .int v))
  | _ => fl
def cs_R_readTold (f_R_errs : Int32 → M Int32) (f_R_isWord : Int32 → M Int32) (f_R_readNumber : Int32 → Int32 → M Int32) (f_R_reads : M Unit) : List (Nat × Nat × CSem) := [(215, 2, W_R_errs f_R_errs), (214, 2, W_R_isWord f_R_isWord), (218, 3, W_R_readNumber f_R_readNumber), (207, 1, W_R_reads f_R_reads)]
def F_R_readTold (x1 : Int32) (x2 : Int32) (x3 : Int32) : M (Int32) :=
  bn (F_R_isWord x1) fun v1 =>
  (if v1 = 0 then
    bn (F_R_errs (1 : Int32)) fun v3 =>
    rt v3
  else
    bn (F_R_reads) fun _ =>
    bn (F_R_readNumber x2 x3) fun v2 =>
    rt v2)
set_option maxRecDepth 4000 in
theorem e_s_R_readTold_0 (f_R_errs : Int32 → M Int32) (f_R_isWord : Int32 → M Int32) (f_R_readNumber : Int32 → Int32 → M Int32) (f_R_reads : M Unit) (x1 : Int32) (x2 : Int32) (x3 : Int32) : wf (β := Int32) L X q_R_readTold 1 (cs_R_readTold f_R_errs f_R_isWord f_R_readNumber f_R_reads) [] [] (fun _ _ _ => fl) (fun v => match v with | some (_, .int x) => rt x | _ => fl) 20 0 [(112, .ref 207), (0, .int x1), (0, .int x2), (0, .int x3)] [] = (bn (f_R_isWord x1) fun v1 =>
  (if v1 = 0 then
    bn (f_R_errs (1 : Int32)) fun v3 =>
    rt v3
  else
    bn (f_R_reads) fun _ =>
    bn (f_R_readNumber x2 x3) fun v2 =>
    rt v2)) := rfl
theorem s_R_readTold_0 {d : Nat} (hcs : AllS L X d (cs_R_readTold F_R_errs F_R_isWord F_R_readNumber F_R_reads)) (x1 : Int32) (x2 : Int32) (x3 : Int32) {o : Option Value × PH} {Q : (Int32) → MI → Prop} (q0 : ∀ v I, Q v I → o = (some (.int v), HH I)) (I : MI) (r : Int32) (I1 : MI) (h : F_R_readTold x1 x2 x3 I = some (r, I1)) (hq : Q r I1) : At L X (d + 1) 217 0 [(112, .ref 207), (0, .int x1), (0, .int x2), (0, .int x3)] [] I o := by
  refine wf_ok z_R_readTold hcs ?_ ?_ _ _ _ _ _ ⟨rfl, trivial, trivial, trivial, trivial⟩ trivial (unm_refl _ _) ((congrFun (e_s_R_readTold_0 (L := L) (X := X) F_R_errs F_R_isWord F_R_readNumber F_R_reads x1 x2 x3) I).trans h)
  · intro pc ls st I2 h1 h2 h3 h
    cases h
  · intro v I2 _ h
    split at h
    · cases h; exact q0 _ _ hq
    · cases h
theorem w_R_readTold {d : Nat} (hcs : AllS L X d (cs_R_readTold F_R_errs F_R_isWord F_R_readNumber F_R_reads)) : Snd L X (d + 1) 217 4 (W_R_readTold F_R_readTold) := by
  refine ⟨_, z_R_readTold, rfl, fun β args k I r hty hlen h => ?_⟩
  unfold W_R_readTold at h
  split at h
  · rename_i t0 a0 u1 a1 u2 a2 u3 a3
    obtain ⟨hb0, h⟩ := mB_ok h
    have e0 := Nat.eq_of_beq_eq_true hb0
    have g0 : okB 112 a0 = true := e0 ▸ hty.1
    have e20 := one_112 g0
    subst e20
    obtain ⟨v, I1, h1, h2⟩ := bn_some h
    refine ⟨gf_obj (c := 12) (by decide) g0, rfl, some (0, .int v), I1, trivial, ?_, h2⟩
    exact s_R_readTold_0 hcs a1 a2 a3  (Q := fun w I => w = v ∧ I = I1) (fun w I q => by obtain ⟨rfl, rfl⟩ := q; rfl) I v I1 h1 ⟨rfl, rfl⟩
  · cases h
theorem S_R_readTold {d : Nat} (hd : 5 ≤ d) : Snd L X d 217 4 (W_R_readTold F_R_readTold) := by
  obtain ⟨e, rfl⟩ : ∃ e, d = e + 1 := ⟨d - 1, by omega⟩
  exact w_R_readTold ⟨S_R_errs (by omega), S_R_isWord (by omega), S_R_readNumber (by omega), S_R_reads (by omega), trivial⟩
set_option maxRecDepth 100000 in
theorem z_R_readDeed : pT[222]? = some (q_R_readDeed, 2, 3, 1, 12) := rfl
def W_R_readDeed (F : Int32 → M Int32) : CSem := fun _ args k => match args with
  | [(t0, .ref a0), (_, .int a1)] => mB (Nat.beq t0 112) <| bn (F a1) fun v => k (some (0, .int v))
  | _ => fl
def cs_R_readDeed (f_R_errs : Int32 → M Int32) (f_R_kindOfDeed : M Int32) (f_R_mostWho : Int32 → M Int32) (f_R_readDeedMore : Int32 → M Int32) (f_R_readMark : Int32 → M Int32) (f_R_readNumber : Int32 → Int32 → M Int32) (f_R_readTold : Int32 → Int32 → Int32 → M Int32) (f_R_reads : M Unit) : List (Nat × Nat × CSem) := [(215, 2, W_R_errs f_R_errs), (223, 1, W_R_kindOfDeed f_R_kindOfDeed), (224, 2, W_R_mostWho f_R_mostWho), (225, 2, W_R_readDeedMore f_R_readDeedMore), (219, 2, W_R_readMark f_R_readMark), (218, 3, W_R_readNumber f_R_readNumber), (217, 4, W_R_readTold f_R_readTold), (207, 1, W_R_reads f_R_reads)]
def F_R_readDeed (x1 : Int32) : M (Int32) :=
  bn (F_R_readTold (20 : Int32) (0 : Int32) (999 : Int32)) fun v1 =>
  bn (sr 160 227 x1 v1) fun _ =>
  bn (ld 160 227 x1) fun v2 =>
  (if v2 = (-1 : Int32) then
    rt (-1 : Int32)
  else
    bn (F_R_readTold (21 : Int32) (0 : Int32) (23 : Int32)) fun v3 =>
    bn (sr 160 227 (x1 + (1 : Int32)) v3) fun _ =>
    bn (ld 160 227 (x1 + (1 : Int32))) fun v4 =>
    (if v4 = (-1 : Int32) then
      rt (-1 : Int32)
    else
      bn (F_R_kindOfDeed) fun v5 =>
      (if v5 = (-1 : Int32) then
        bn (F_R_errs (1 : Int32)) fun v12 =>
        rt v12
      else
        bn (F_R_reads) fun _ =>
        bn (sr 160 227 (x1 + (2 : Int32)) v5) fun _ =>
        bn (F_R_mostWho v5) fun v6 =>
        bn (F_R_readNumber (0 : Int32) v6) fun v7 =>
        bn (sr 160 227 (x1 + (3 : Int32)) v7) fun _ =>
        bn (ld 160 227 (x1 + (3 : Int32))) fun v8 =>
        (if v8 = (-1 : Int32) then
          rt (-1 : Int32)
        else
          bn (F_R_readDeedMore v5) fun v9 =>
          bn (sr 160 227 (x1 + (4 : Int32)) v9) fun _ =>
          bn (ld 160 227 (x1 + (4 : Int32))) fun v10 =>
          (if v10 = (-1 : Int32) then
            rt (-1 : Int32)
          else
            bn (F_R_readMark (59 : Int32)) fun v11 =>
            rt v11)))))
set_option maxRecDepth 4000 in
theorem e_s_R_readDeed_0 (f_R_errs : Int32 → M Int32) (f_R_kindOfDeed : M Int32) (f_R_mostWho : Int32 → M Int32) (f_R_readDeedMore : Int32 → M Int32) (f_R_readMark : Int32 → M Int32) (f_R_readNumber : Int32 → Int32 → M Int32) (f_R_readTold : Int32 → Int32 → Int32 → M Int32) (f_R_reads : M Unit) (x1 : Int32) : wf (β := Int32) L X q_R_readDeed 1 (cs_R_readDeed f_R_errs f_R_kindOfDeed f_R_mostWho f_R_readDeedMore f_R_readMark f_R_readNumber f_R_readTold f_R_reads) [2] [] (fun _ _ _ => fl) (fun v => match v with | some (_, .int x) => rt x | _ => fl) 107 0 [(112, .ref 207), (0, .int x1), (0, dV)] [] = (bn (f_R_readTold (20 : Int32) (0 : Int32) (999 : Int32)) fun v1 =>
  bn (sr 160 227 x1 v1) fun _ =>
  bn (ld 160 227 x1) fun v2 =>
  (if v2 = (-1 : Int32) then
    rt (-1 : Int32)
  else
    bn (f_R_readTold (21 : Int32) (0 : Int32) (23 : Int32)) fun v3 =>
    bn (sr 160 227 (x1 + (1 : Int32)) v3) fun _ =>
    bn (ld 160 227 (x1 + (1 : Int32))) fun v4 =>
    (if v4 = (-1 : Int32) then
      rt (-1 : Int32)
    else
      bn (f_R_kindOfDeed) fun v5 =>
      (if v5 = (-1 : Int32) then
        bn (f_R_errs (1 : Int32)) fun v12 =>
        rt v12
      else
        bn (f_R_reads) fun _ =>
        bn (sr 160 227 (x1 + (2 : Int32)) v5) fun _ =>
        bn (f_R_mostWho v5) fun v6 =>
        bn (f_R_readNumber (0 : Int32) v6) fun v7 =>
        bn (sr 160 227 (x1 + (3 : Int32)) v7) fun _ =>
        bn (ld 160 227 (x1 + (3 : Int32))) fun v8 =>
        (if v8 = (-1 : Int32) then
          rt (-1 : Int32)
        else
          bn (f_R_readDeedMore v5) fun v9 =>
          bn (sr 160 227 (x1 + (4 : Int32)) v9) fun _ =>
          bn (ld 160 227 (x1 + (4 : Int32))) fun v10 =>
          (if v10 = (-1 : Int32) then
            rt (-1 : Int32)
          else
            bn (f_R_readMark (59 : Int32)) fun v11 =>
            rt v11)))))) := rfl
theorem s_R_readDeed_0 {d : Nat} (hcs : AllS L X d (cs_R_readDeed F_R_errs F_R_kindOfDeed F_R_mostWho F_R_readDeedMore F_R_readMark F_R_readNumber F_R_readTold F_R_reads)) (x1 : Int32) {o : Option Value × PH} {Q : (Int32) → MI → Prop} (q0 : ∀ v I, Q v I → o = (some (.int v), HH I)) (I : MI) (r : Int32) (I1 : MI) (h : F_R_readDeed x1 I = some (r, I1)) (hq : Q r I1) : At L X (d + 1) 222 0 [(112, .ref 207), (0, .int x1), (0, dV)] [] I o := by
  refine wf_ok z_R_readDeed hcs ?_ ?_ _ _ _ _ _ ⟨rfl, trivial, trivial, trivial⟩ trivial (unm_refl _ _) ((congrFun (e_s_R_readDeed_0 (L := L) (X := X) F_R_errs F_R_kindOfDeed F_R_mostWho F_R_readDeedMore F_R_readMark F_R_readNumber F_R_readTold F_R_reads x1) I).trans h)
  · intro pc ls st I2 h1 h2 h3 h
    cases h
  · intro v I2 _ h
    split at h
    · cases h; exact q0 _ _ hq
    · cases h
theorem w_R_readDeed {d : Nat} (hcs : AllS L X d (cs_R_readDeed F_R_errs F_R_kindOfDeed F_R_mostWho F_R_readDeedMore F_R_readMark F_R_readNumber F_R_readTold F_R_reads)) : Snd L X (d + 1) 222 2 (W_R_readDeed F_R_readDeed) := by
  refine ⟨_, z_R_readDeed, rfl, fun β args k I r hty hlen h => ?_⟩
  unfold W_R_readDeed at h
  split at h
  · rename_i t0 a0 u1 a1
    obtain ⟨hb0, h⟩ := mB_ok h
    have e0 := Nat.eq_of_beq_eq_true hb0
    have g0 : okB 112 a0 = true := e0 ▸ hty.1
    have e20 := one_112 g0
    subst e20
    obtain ⟨v, I1, h1, h2⟩ := bn_some h
    refine ⟨gf_obj (c := 12) (by decide) g0, rfl, some (0, .int v), I1, trivial, ?_, h2⟩
    exact s_R_readDeed_0 hcs a1  (Q := fun w I => w = v ∧ I = I1) (fun w I q => by obtain ⟨rfl, rfl⟩ := q; rfl) I v I1 h1 ⟨rfl, rfl⟩
  · cases h
theorem S_R_readDeed {d : Nat} (hd : 6 ≤ d) : Snd L X d 222 2 (W_R_readDeed F_R_readDeed) := by
  obtain ⟨e, rfl⟩ : ∃ e, d = e + 1 := ⟨d - 1, by omega⟩
  exact w_R_readDeed ⟨S_R_errs (by omega), S_R_kindOfDeed (by omega), S_R_mostWho (by omega), S_R_readDeedMore (by omega), S_R_readMark (by omega), S_R_readNumber (by omega), S_R_readTold (by omega), S_R_reads (by omega), trivial⟩
end
