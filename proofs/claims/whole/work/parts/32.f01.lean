/-! methods (written by wip/tools/gen_f.py) -/
section
variable {L : Nat} {X : Nat → Int32}
set_option maxRecDepth 100000 in
theorem z_Matching_leastPlace : pT[169]? = some (q_Matching_leastPlace, 5, 7, 1, 3) := rfl
def W_Matching_leastPlace (F : Nat → Int32 → Int32 → Int32 → Int32 → M Int32) : CSem := fun _ args k => match args with
  | [(t0, .ref a0), (_, .int a1), (_, .int a2), (_, .int a3), (_, .int a4)] => mB (Nat.beq t0 103) <| bn (F a0 a1 a2 a3 a4) fun v => k (some (0, .int v))
  | _ => fl
def cs_Matching_leastPlace (f_Matching_most : Nat → Int32 → Int32 → Int32 → M Int32) : List (Nat × Nat × CSem) := [(128, 4, W_Matching_most f_Matching_most)]
def B_Matching_leastPlace_3 (r0 : Nat) (x1 : Int32) (x2 : Int32) (x3 : Int32) (x4 : Int32) (y : Int32) : M ((Int32) ⊕ (Int32)) :=
  (if y < (10 : Int32) then
    bn (ld 10 (r0 + 1) x1) fun v1 =>
    (if ((v1 &&& (x3 ^^^ (-1 : Int32))) &&& ((1 : Int32) <<< (y &&& 31))) = 0 then
      rt (.inl (y + (1 : Int32)))
    else
      bn (F_Matching_most r0 (x1 + (1 : Int32)) x2 (x3 ||| ((1 : Int32) <<< (y &&& 31)))) fun v2 =>
      (if ((1 : Int32) + v2) = x4 then
        rt (.inr y)
      else
        rt (.inl (y + (1 : Int32)))))
  else
    rt (.inr (-1 : Int32)))
set_option maxRecDepth 4000 in
theorem e_b_Matching_leastPlace_3 (f_Matching_most : Nat → Int32 → Int32 → Int32 → M Int32) (r0 : Nat) (x1 : Int32) (x2 : Int32) (x3 : Int32) (x4 : Int32) (y : Int32) : wf (β := (Int32) ⊕ (Int32)) L X q_Matching_leastPlace 1 (cs_Matching_leastPlace f_Matching_most) [5, 6] [3] (fun pc ls st => mC (Nat.beq pc 3) (mN st <| gI ls 5 fun a5 => gD ls 6 <| rt (.inl a5)) (fl)) (fun v => match v with | some (_, .int x) => rt (.inr x) | _ => fl) 44 3 [(103, .ref r0), (0, .int x1), (0, .int x2), (0, .int x3), (0, .int x4), (0, .int y), (0, dV)] [] = ((if y < (10 : Int32) then
    bn (ld 10 (r0 + 1) x1) fun v1 =>
    (if ((v1 &&& (x3 ^^^ (-1 : Int32))) &&& ((1 : Int32) <<< (y &&& 31))) = 0 then
      rt (.inl (y + (1 : Int32)))
    else
      bn (f_Matching_most r0 (x1 + (1 : Int32)) x2 (x3 ||| ((1 : Int32) <<< (y &&& 31)))) fun v2 =>
      (if ((1 : Int32) + v2) = x4 then
        rt (.inr y)
      else
        rt (.inl (y + (1 : Int32)))))
  else
    rt (.inr (-1 : Int32)))) := rfl
theorem b_Matching_leastPlace_3 {d : Nat} (hcs : AllS L X d (cs_Matching_leastPlace F_Matching_most)) (r0 : Nat) (x1 : Int32) (x2 : Int32) (x3 : Int32) (x4 : Int32) (t0 : okB 103 r0 = true) {o : Option Value × PH} {Q : ((Int32) ⊕ (Int32)) → MI → Prop} (qb : ∀ y I, Q (.inl y) I → At L X (d + 1) 169 3 [(103, .ref r0), (0, .int x1), (0, .int x2), (0, .int x3), (0, .int x4), (0, .int y), (0, dV)] [] I o) (qr : ∀ v I, Q (.inr v) I → o = (some (.int v), HH I)) (y : Int32) (I : MI) (r : (Int32) ⊕ (Int32)) (I1 : MI) (h : B_Matching_leastPlace_3 r0 x1 x2 x3 x4 y I = some (r, I1)) (hq : Q r I1) : At L X (d + 1) 169 3 [(103, .ref r0), (0, .int x1), (0, .int x2), (0, .int x3), (0, .int x4), (0, .int y), (0, dV)] [] I o := by
  refine wf_ok z_Matching_leastPlace hcs ?_ ?_ _ _ _ _ _ ⟨t0, trivial, trivial, trivial, trivial, trivial, trivial, trivial⟩ trivial (unm_refl _ _) ((congrFun (e_b_Matching_leastPlace_3 (L := L) (X := X) F_Matching_most r0 x1 x2 x3 x4 y) I).trans h)
  · intro pc ls st I2 h1 h2 h3 h
    rcases mC_ok h with ⟨hb, h⟩ | ⟨_, h⟩
    · have e := Nat.eq_of_beq_eq_true hb
      subst e
      obtain ⟨hst, h⟩ := mN_ok h
      subst hst
      obtain ⟨a5, n5, h⟩ := gI_ok h
      obtain ⟨n6, h⟩ := gD_ok h
      refine at_leaf (ls2 := [(103, .ref r0), (0, .int x1), (0, .int x2), (0, .int x3), (0, .int x4), (0, .int a5), (0, dV)]) h3.1 ⟨Or.inr ⟨_, (h3.2 0 rfl).trans rfl⟩, Or.inr ⟨_, (h3.2 1 rfl).trans rfl⟩, Or.inr ⟨_, (h3.2 2 rfl).trans rfl⟩, Or.inr ⟨_, (h3.2 3 rfl).trans rfl⟩, Or.inr ⟨_, (h3.2 4 rfl).trans rfl⟩, Or.inr n5, Or.inl ⟨rfl, n6⟩, trivial⟩ ?_
      cases h; exact qb _ _ hq
    cases h
  · intro v I2 _ h
    split at h
    · cases h; exact qr _ _ hq
    · cases h
def K_Matching_leastPlace_3 (r0 : Nat) (x1 : Int32) (x2 : Int32) (x3 : Int32) (x4 : Int32) (x5 : Int32) : M (Int32) :=
  lp (B_Matching_leastPlace_3 r0 x1 x2 x3 x4) FU x5
theorem s_Matching_leastPlace_3 {d : Nat} (hcs : AllS L X d (cs_Matching_leastPlace F_Matching_most)) (r0 : Nat) (x1 : Int32) (x2 : Int32) (x3 : Int32) (x4 : Int32) (x5 : Int32) (t0 : okB 103 r0 = true) {o : Option Value × PH} {Q : (Int32) → MI → Prop} (q0 : ∀ v I, Q v I → o = (some (.int v), HH I)) (I : MI) (r : Int32) (I1 : MI) (h : K_Matching_leastPlace_3 r0 x1 x2 x3 x4 x5 I = some (r, I1)) (hq : Q r I1) : At L X (d + 1) 169 3 [(103, .ref r0), (0, .int x1), (0, .int x2), (0, .int x3), (0, .int x4), (0, .int x5), (0, dV)] [] I o := by
  unfold K_Matching_leastPlace_3 at h
  have w0 := fun w => at_lp (body := B_Matching_leastPlace_3 r0 x1 x2 x3 x4) (P := (fun (y : Int32) I => At L X (d + 1) 169 3 [(103, .ref r0), (0, .int x1), (0, .int x2), (0, .int x3), (0, .int x4), (0, .int y), (0, dV)] [] I o)) (Q := (fun (e : Int32) I => Q e I)) w FU x5 I r I1 h hq
  refine w0 ?_
  intro y I r I1 h hq
  exact b_Matching_leastPlace_3 hcs r0 x1 x2 x3 x4 t0 (Q := SQ (fun (y : Int32) I => At L X (d + 1) 169 3 [(103, .ref r0), (0, .int x1), (0, .int x2), (0, .int x3), (0, .int x4), (0, .int y), (0, dV)] [] I o) (fun (e : Int32) I => Q e I)) (fun _ _ w => w) q0 y I r I1 h hq
def F_Matching_leastPlace (r0 : Nat) (x1 : Int32) (x2 : Int32) (x3 : Int32) (x4 : Int32) : M (Int32) :=
  K_Matching_leastPlace_3 r0 x1 x2 x3 x4 (0 : Int32)
set_option maxRecDepth 4000 in
theorem e_s_Matching_leastPlace_0 (f_Matching_most : Nat → Int32 → Int32 → Int32 → M Int32) (k_3 : Nat → Int32 → Int32 → Int32 → Int32 → Int32 → M (Int32)) (r0 : Nat) (x1 : Int32) (x2 : Int32) (x3 : Int32) (x4 : Int32) : wf (β := Int32) L X q_Matching_leastPlace 1 (cs_Matching_leastPlace f_Matching_most) [5] [3] (fun pc ls st => mC (Nat.beq pc 3) (mN st <| gI ls 5 fun a5 => gD ls 6 <| k_3 r0 x1 x2 x3 x4 a5) (fl)) (fun v => match v with | some (_, .int x) => rt x | _ => fl) 44 0 [(103, .ref r0), (0, .int x1), (0, .int x2), (0, .int x3), (0, .int x4), (0, dV), (0, dV)] [] = (k_3 r0 x1 x2 x3 x4 (0 : Int32)) := rfl
theorem s_Matching_leastPlace_0 {d : Nat} (hcs : AllS L X d (cs_Matching_leastPlace F_Matching_most)) (r0 : Nat) (x1 : Int32) (x2 : Int32) (x3 : Int32) (x4 : Int32) (t0 : okB 103 r0 = true) {o : Option Value × PH} {Q : (Int32) → MI → Prop} (q0 : ∀ v I, Q v I → o = (some (.int v), HH I)) (I : MI) (r : Int32) (I1 : MI) (h : F_Matching_leastPlace r0 x1 x2 x3 x4 I = some (r, I1)) (hq : Q r I1) : At L X (d + 1) 169 0 [(103, .ref r0), (0, .int x1), (0, .int x2), (0, .int x3), (0, .int x4), (0, dV), (0, dV)] [] I o := by
  refine wf_ok z_Matching_leastPlace hcs ?_ ?_ _ _ _ _ _ ⟨t0, trivial, trivial, trivial, trivial, trivial, trivial, trivial⟩ trivial (unm_refl _ _) ((congrFun (e_s_Matching_leastPlace_0 (L := L) (X := X) F_Matching_most K_Matching_leastPlace_3 r0 x1 x2 x3 x4) I).trans h)
  · intro pc ls st I2 h1 h2 h3 h
    rcases mC_ok h with ⟨hb, h⟩ | ⟨_, h⟩
    · have e := Nat.eq_of_beq_eq_true hb
      subst e
      obtain ⟨hst, h⟩ := mN_ok h
      subst hst
      obtain ⟨a5, n5, h⟩ := gI_ok h
      obtain ⟨n6, h⟩ := gD_ok h
      refine at_leaf (ls2 := [(103, .ref r0), (0, .int x1), (0, .int x2), (0, .int x3), (0, .int x4), (0, .int a5), (0, dV)]) h3.1 ⟨Or.inr ⟨_, (h3.2 0 rfl).trans rfl⟩, Or.inr ⟨_, (h3.2 1 rfl).trans rfl⟩, Or.inr ⟨_, (h3.2 2 rfl).trans rfl⟩, Or.inr ⟨_, (h3.2 3 rfl).trans rfl⟩, Or.inr ⟨_, (h3.2 4 rfl).trans rfl⟩, Or.inr n5, Or.inl ⟨rfl, n6⟩, trivial⟩ ?_
      exact s_Matching_leastPlace_3 hcs r0 x1 x2 x3 x4 a5 t0 q0 _ _ _ h hq
    cases h
  · intro v I2 _ h
    split at h
    · cases h; exact q0 _ _ hq
    · cases h
theorem w_Matching_leastPlace {d : Nat} (hcs : AllS L X d (cs_Matching_leastPlace F_Matching_most)) : Snd L X (d + 1) 169 5 (W_Matching_leastPlace F_Matching_leastPlace) := by
  refine ⟨_, z_Matching_leastPlace, rfl, fun β args k I r hty hlen h => ?_⟩
  unfold W_Matching_leastPlace at h
  split at h
  · rename_i t0 a0 u1 a1 u2 a2 u3 a3 u4 a4
    obtain ⟨hb0, h⟩ := mB_ok h
    have e0 := Nat.eq_of_beq_eq_true hb0
    have g0 : okB 103 a0 = true := e0 ▸ hty.1
    obtain ⟨v, I1, h1, h2⟩ := bn_some h
    refine ⟨gf_obj (c := 3) (by decide) g0, rfl, some (0, .int v), I1, trivial, ?_, h2⟩
    exact s_Matching_leastPlace_0 hcs a0 a1 a2 a3 a4 g0 (Q := fun w I => w = v ∧ I = I1) (fun w I q => by obtain ⟨rfl, rfl⟩ := q; rfl) I v I1 h1 ⟨rfl, rfl⟩
  · cases h
theorem S_Matching_leastPlace {d : Nat} (hd : 32 ≤ d) : Snd L X d 169 5 (W_Matching_leastPlace F_Matching_leastPlace) := by
  obtain ⟨e, rfl⟩ : ∃ e, d = e + 1 := ⟨d - 1, by omega⟩
  exact w_Matching_leastPlace ⟨S_Matching_most (by omega), trivial⟩
set_option maxRecDepth 100000 in
theorem z_Matching_firstPlace : pT[168]? = some (q_Matching_firstPlace, 3, 7, 1, 3) := rfl
def W_Matching_firstPlace (F : Nat → Int32 → Int32 → M Int32) : CSem := fun _ args k => match args with
  | [(t0, .ref a0), (_, .int a1), (_, .int a2)] => mB (Nat.beq t0 103) <| bn (F a0 a1 a2) fun v => k (some (0, .int v))
  | _ => fl
def cs_Matching_firstPlace (f_Matching_leastPlace : Nat → Int32 → Int32 → Int32 → Int32 → M Int32) (f_Matching_most : Nat → Int32 → Int32 → Int32 → M Int32) : List (Nat × Nat × CSem) := [(169, 5, W_Matching_leastPlace f_Matching_leastPlace), (128, 4, W_Matching_most f_Matching_most)]
def B_Matching_firstPlace_17 (r0 : Nat) (x1 : Int32) (x2 : Int32) (y : Int32 × Int32 × Int32 × Int32) : M ((Int32 × Int32 × Int32 × Int32) ⊕ (Int32)) :=
  (if x2 < y.2.2.2 then
    rt (.inr y.2.2.1)
  else
    (if y.2.2.2 < x1 then
      (if y.2.2.2 < (10 : Int32) then
        bn (F_Matching_leastPlace r0 y.2.2.2 x1 y.2.1 y.1) fun v1 =>
        (if v1 = (-1 : Int32) then
          rt (.inl (y.1, y.2.1, v1, (y.2.2.2 + (1 : Int32))))
        else
          rt (.inl ((y.1 + (-1 : Int32)), (y.2.1 ||| ((1 : Int32) <<< (v1 &&& 31))), v1, (y.2.2.2 + (1 : Int32)))))
      else
        rt (.inr y.2.2.1))
    else
      rt (.inr y.2.2.1)))
set_option maxRecDepth 4000 in
theorem e_b_Matching_firstPlace_17 (f_Matching_leastPlace : Nat → Int32 → Int32 → Int32 → Int32 → M Int32) (f_Matching_most : Nat → Int32 → Int32 → Int32 → M Int32) (r0 : Nat) (x1 : Int32) (x2 : Int32) (y : Int32 × Int32 × Int32 × Int32) : wf (β := (Int32 × Int32 × Int32 × Int32) ⊕ (Int32)) L X q_Matching_firstPlace 1 (cs_Matching_firstPlace f_Matching_leastPlace f_Matching_most) [3, 4, 5, 6] [17] (fun pc ls st => mC (Nat.beq pc 17) (mN st <| gI ls 3 fun a3 => gI ls 4 fun a4 => gI ls 5 fun a5 => gI ls 6 fun a6 => rt (.inl (a3, a4, a5, a6))) (fl)) (fun v => match v with | some (_, .int x) => rt (.inr x) | _ => fl) 47 17 [(103, .ref r0), (0, .int x1), (0, .int x2), (0, .int y.1), (0, .int y.2.1), (0, .int y.2.2.1), (0, .int y.2.2.2)] [] = ((if x2 < y.2.2.2 then
    rt (.inr y.2.2.1)
  else
    (if y.2.2.2 < x1 then
      (if y.2.2.2 < (10 : Int32) then
        bn (f_Matching_leastPlace r0 y.2.2.2 x1 y.2.1 y.1) fun v1 =>
        (if v1 = (-1 : Int32) then
          rt (.inl (y.1, y.2.1, v1, (y.2.2.2 + (1 : Int32))))
        else
          rt (.inl ((y.1 + (-1 : Int32)), (y.2.1 ||| ((1 : Int32) <<< (v1 &&& 31))), v1, (y.2.2.2 + (1 : Int32)))))
      else
        rt (.inr y.2.2.1))
    else
      rt (.inr y.2.2.1)))) := rfl
theorem b_Matching_firstPlace_17 {d : Nat} (hcs : AllS L X d (cs_Matching_firstPlace F_Matching_leastPlace F_Matching_most)) (r0 : Nat) (x1 : Int32) (x2 : Int32) (t0 : okB 103 r0 = true) {o : Option Value × PH} {Q : ((Int32 × Int32 × Int32 × Int32) ⊕ (Int32)) → MI → Prop} (qb : ∀ y I, Q (.inl y) I → At L X (d + 1) 168 17 [(103, .ref r0), (0, .int x1), (0, .int x2), (0, .int y.1), (0, .int y.2.1), (0, .int y.2.2.1), (0, .int y.2.2.2)] [] I o) (qr : ∀ v I, Q (.inr v) I → o = (some (.int v), HH I)) (y : Int32 × Int32 × Int32 × Int32) (I : MI) (r : (Int32 × Int32 × Int32 × Int32) ⊕ (Int32)) (I1 : MI) (h : B_Matching_firstPlace_17 r0 x1 x2 y I = some (r, I1)) (hq : Q r I1) : At L X (d + 1) 168 17 [(103, .ref r0), (0, .int x1), (0, .int x2), (0, .int y.1), (0, .int y.2.1), (0, .int y.2.2.1), (0, .int y.2.2.2)] [] I o := by
  refine wf_ok z_Matching_firstPlace hcs ?_ ?_ _ _ _ _ _ ⟨t0, trivial, trivial, trivial, trivial, trivial, trivial, trivial⟩ trivial (unm_refl _ _) ((congrFun (e_b_Matching_firstPlace_17 (L := L) (X := X) F_Matching_leastPlace F_Matching_most r0 x1 x2 y) I).trans h)
  · intro pc ls st I2 h1 h2 h3 h
    rcases mC_ok h with ⟨hb, h⟩ | ⟨_, h⟩
    · have e := Nat.eq_of_beq_eq_true hb
      subst e
      obtain ⟨hst, h⟩ := mN_ok h
      subst hst
      obtain ⟨a3, n3, h⟩ := gI_ok h
      obtain ⟨a4, n4, h⟩ := gI_ok h
      obtain ⟨a5, n5, h⟩ := gI_ok h
      obtain ⟨a6, n6, h⟩ := gI_ok h
      refine at_leaf (ls2 := [(103, .ref r0), (0, .int x1), (0, .int x2), (0, .int a3), (0, .int a4), (0, .int a5), (0, .int a6)]) h3.1 ⟨Or.inr ⟨_, (h3.2 0 rfl).trans rfl⟩, Or.inr ⟨_, (h3.2 1 rfl).trans rfl⟩, Or.inr ⟨_, (h3.2 2 rfl).trans rfl⟩, Or.inr n3, Or.inr n4, Or.inr n5, Or.inr n6, trivial⟩ ?_
      cases h; exact qb _ _ hq
    cases h
  · intro v I2 _ h
    split at h
    · cases h; exact qr _ _ hq
    · cases h
def K_Matching_firstPlace_17 (r0 : Nat) (x1 : Int32) (x2 : Int32) (x3 : Int32) (x4 : Int32) (x5 : Int32) (x6 : Int32) : M (Int32) :=
  lp (B_Matching_firstPlace_17 r0 x1 x2) FU (x3, x4, x5, x6)
theorem s_Matching_firstPlace_17 {d : Nat} (hcs : AllS L X d (cs_Matching_firstPlace F_Matching_leastPlace F_Matching_most)) (r0 : Nat) (x1 : Int32) (x2 : Int32) (x3 : Int32) (x4 : Int32) (x5 : Int32) (x6 : Int32) (t0 : okB 103 r0 = true) {o : Option Value × PH} {Q : (Int32) → MI → Prop} (q0 : ∀ v I, Q v I → o = (some (.int v), HH I)) (I : MI) (r : Int32) (I1 : MI) (h : K_Matching_firstPlace_17 r0 x1 x2 x3 x4 x5 x6 I = some (r, I1)) (hq : Q r I1) : At L X (d + 1) 168 17 [(103, .ref r0), (0, .int x1), (0, .int x2), (0, .int x3), (0, .int x4), (0, .int x5), (0, .int x6)] [] I o := by
  unfold K_Matching_firstPlace_17 at h
  have w0 := fun w => at_lp (body := B_Matching_firstPlace_17 r0 x1 x2) (P := (fun (y : Int32 × Int32 × Int32 × Int32) I => At L X (d + 1) 168 17 [(103, .ref r0), (0, .int x1), (0, .int x2), (0, .int y.1), (0, .int y.2.1), (0, .int y.2.2.1), (0, .int y.2.2.2)] [] I o)) (Q := (fun (e : Int32) I => Q e I)) w FU (x3, x4, x5, x6) I r I1 h hq
  refine w0 ?_
  intro y I r I1 h hq
  exact b_Matching_firstPlace_17 hcs r0 x1 x2 t0 (Q := SQ (fun (y : Int32 × Int32 × Int32 × Int32) I => At L X (d + 1) 168 17 [(103, .ref r0), (0, .int x1), (0, .int x2), (0, .int y.1), (0, .int y.2.1), (0, .int y.2.2.1), (0, .int y.2.2.2)] [] I o) (fun (e : Int32) I => Q e I)) (fun _ _ w => w) q0 y I r I1 h hq
def F_Matching_firstPlace (r0 : Nat) (x1 : Int32) (x2 : Int32) : M (Int32) :=
  bn (F_Matching_most r0 (0 : Int32) x1 (0 : Int32)) fun v1 =>
  K_Matching_firstPlace_17 r0 x1 x2 v1 (0 : Int32) (-1 : Int32) (0 : Int32)
set_option maxRecDepth 4000 in
theorem e_s_Matching_firstPlace_0 (f_Matching_leastPlace : Nat → Int32 → Int32 → Int32 → Int32 → M Int32) (f_Matching_most : Nat → Int32 → Int32 → Int32 → M Int32) (k_17 : Nat → Int32 → Int32 → Int32 → Int32 → Int32 → Int32 → M (Int32)) (r0 : Nat) (x1 : Int32) (x2 : Int32) : wf (β := Int32) L X q_Matching_firstPlace 1 (cs_Matching_firstPlace f_Matching_leastPlace f_Matching_most) [3, 4, 5, 6] [17] (fun pc ls st => mC (Nat.beq pc 17) (mN st <| gI ls 3 fun a3 => gI ls 4 fun a4 => gI ls 5 fun a5 => gI ls 6 fun a6 => k_17 r0 x1 x2 a3 a4 a5 a6) (fl)) (fun v => match v with | some (_, .int x) => rt x | _ => fl) 47 0 [(103, .ref r0), (0, .int x1), (0, .int x2), (0, dV), (0, dV), (0, dV), (0, dV)] [] = (bn (f_Matching_most r0 (0 : Int32) x1 (0 : Int32)) fun v1 =>
  k_17 r0 x1 x2 v1 (0 : Int32) (-1 : Int32) (0 : Int32)) := rfl
theorem s_Matching_firstPlace_0 {d : Nat} (hcs : AllS L X d (cs_Matching_firstPlace F_Matching_leastPlace F_Matching_most)) (r0 : Nat) (x1 : Int32) (x2 : Int32) (t0 : okB 103 r0 = true) {o : Option Value × PH} {Q : (Int32) → MI → Prop} (q0 : ∀ v I, Q v I → o = (some (.int v), HH I)) (I : MI) (r : Int32) (I1 : MI) (h : F_Matching_firstPlace r0 x1 x2 I = some (r, I1)) (hq : Q r I1) : At L X (d + 1) 168 0 [(103, .ref r0), (0, .int x1), (0, .int x2), (0, dV), (0, dV), (0, dV), (0, dV)] [] I o := by
  refine wf_ok z_Matching_firstPlace hcs ?_ ?_ _ _ _ _ _ ⟨t0, trivial, trivial, trivial, trivial, trivial, trivial, trivial⟩ trivial (unm_refl _ _) ((congrFun (e_s_Matching_firstPlace_0 (L := L) (X := X) F_Matching_leastPlace F_Matching_most K_Matching_firstPlace_17 r0 x1 x2) I).trans h)
  · intro pc ls st I2 h1 h2 h3 h
    rcases mC_ok h with ⟨hb, h⟩ | ⟨_, h⟩
    · have e := Nat.eq_of_beq_eq_true hb
      subst e
      obtain ⟨hst, h⟩ := mN_ok h
      subst hst
      obtain ⟨a3, n3, h⟩ := gI_ok h
      obtain ⟨a4, n4, h⟩ := gI_ok h
      obtain ⟨a5, n5, h⟩ := gI_ok h
      obtain ⟨a6, n6, h⟩ := gI_ok h
      refine at_leaf (ls2 := [(103, .ref r0), (0, .int x1), (0, .int x2), (0, .int a3), (0, .int a4), (0, .int a5), (0, .int a6)]) h3.1 ⟨Or.inr ⟨_, (h3.2 0 rfl).trans rfl⟩, Or.inr ⟨_, (h3.2 1 rfl).trans rfl⟩, Or.inr ⟨_, (h3.2 2 rfl).trans rfl⟩, Or.inr n3, Or.inr n4, Or.inr n5, Or.inr n6, trivial⟩ ?_
      exact s_Matching_firstPlace_17 hcs r0 x1 x2 a3 a4 a5 a6 t0 q0 _ _ _ h hq
    cases h
  · intro v I2 _ h
    split at h
    · cases h; exact q0 _ _ hq
    · cases h
theorem w_Matching_firstPlace {d : Nat} (hcs : AllS L X d (cs_Matching_firstPlace F_Matching_leastPlace F_Matching_most)) : Snd L X (d + 1) 168 3 (W_Matching_firstPlace F_Matching_firstPlace) := by
  refine ⟨_, z_Matching_firstPlace, rfl, fun β args k I r hty hlen h => ?_⟩
  unfold W_Matching_firstPlace at h
  split at h
  · rename_i t0 a0 u1 a1 u2 a2
    obtain ⟨hb0, h⟩ := mB_ok h
    have e0 := Nat.eq_of_beq_eq_true hb0
    have g0 : okB 103 a0 = true := e0 ▸ hty.1
    obtain ⟨v, I1, h1, h2⟩ := bn_some h
    refine ⟨gf_obj (c := 3) (by decide) g0, rfl, some (0, .int v), I1, trivial, ?_, h2⟩
    exact s_Matching_firstPlace_0 hcs a0 a1 a2 g0 (Q := fun w I => w = v ∧ I = I1) (fun w I q => by obtain ⟨rfl, rfl⟩ := q; rfl) I v I1 h1 ⟨rfl, rfl⟩
  · cases h
theorem S_Matching_firstPlace {d : Nat} (hd : 33 ≤ d) : Snd L X d 168 3 (W_Matching_firstPlace F_Matching_firstPlace) := by
  obtain ⟨e, rfl⟩ : ∃ e, d = e + 1 := ⟨d - 1, by omega⟩
  exact w_Matching_firstPlace ⟨S_Matching_leastPlace (by omega), S_Matching_most (by omega), trivial⟩
set_option maxRecDepth 100000 in
theorem z_Matching_allow : pT[127]? = some (q_Matching_allow, 3, 3, 0, 3) := rfl
def W_Matching_allow (F : Nat → Int32 → Int32 → M Unit) : CSem := fun _ args k => match args with
  | [(t0, .ref a0), (_, .int a1), (_, .int a2)] => mB (Nat.beq t0 103) <| bn (F a0 a1 a2) fun _ => k none
  | _ => fl
def cs_Matching_allow (f_A_within : Int32 → Int32 → Int32 → M Int32) : List (Nat × Nat × CSem) := [(18, 3, W_A_within f_A_within)]
def F_Matching_allow (r0 : Nat) (x1 : Int32) (x2 : Int32) : M (Unit) :=
  bn (F_A_within x1 (0 : Int32) (9 : Int32)) fun v1 =>
  (if v1 = 0 then
    rt ()
  else
    bn (sr 10 (r0 + 1) x1 x2) fun _ =>
    rt ())
set_option maxRecDepth 4000 in
theorem e_s_Matching_allow_0 (f_A_within : Int32 → Int32 → Int32 → M Int32) (r0 : Nat) (x1 : Int32) (x2 : Int32) : wf (β := Unit) L X q_Matching_allow 0 (cs_Matching_allow f_A_within) [] [] (fun _ _ _ => fl) (fun v => match v with | none => rt () | _ => fl) 16 0 [(103, .ref r0), (0, .int x1), (0, .int x2)] [] = (bn (f_A_within x1 (0 : Int32) (9 : Int32)) fun v1 =>
  (if v1 = 0 then
    rt ()
  else
    bn (sr 10 (r0 + 1) x1 x2) fun _ =>
    rt ())) := rfl
theorem s_Matching_allow_0 {d : Nat} (hcs : AllS L X d (cs_Matching_allow F_A_within)) (r0 : Nat) (x1 : Int32) (x2 : Int32) (t0 : okB 103 r0 = true) {o : Option Value × PH} {Q : (Unit) → MI → Prop} (q0 : ∀ v I, Q v I → o = (none, HH I)) (I : MI) (r : Unit) (I1 : MI) (h : F_Matching_allow r0 x1 x2 I = some (r, I1)) (hq : Q r I1) : At L X (d + 1) 127 0 [(103, .ref r0), (0, .int x1), (0, .int x2)] [] I o := by
  refine wf_ok z_Matching_allow hcs ?_ ?_ _ _ _ _ _ ⟨t0, trivial, trivial, trivial⟩ trivial (unm_refl _ _) ((congrFun (e_s_Matching_allow_0 (L := L) (X := X) F_A_within r0 x1 x2) I).trans h)
  · intro pc ls st I2 h1 h2 h3 h
    cases h
  · intro v I2 _ h
    split at h
    · cases h; exact q0 _ _ hq
    · cases h
theorem w_Matching_allow {d : Nat} (hcs : AllS L X d (cs_Matching_allow F_A_within)) : Snd L X (d + 1) 127 3 (W_Matching_allow F_Matching_allow) := by
  refine ⟨_, z_Matching_allow, rfl, fun β args k I r hty hlen h => ?_⟩
  unfold W_Matching_allow at h
  split at h
  · rename_i t0 a0 u1 a1 u2 a2
    obtain ⟨hb0, h⟩ := mB_ok h
    have e0 := Nat.eq_of_beq_eq_true hb0
    have g0 : okB 103 a0 = true := e0 ▸ hty.1
    obtain ⟨v, I1, h1, h2⟩ := bn_some h
    refine ⟨gf_obj (c := 3) (by decide) g0, rfl, none, I1, trivial, ?_, h2⟩
    exact s_Matching_allow_0 hcs a0 a1 a2 g0 (Q := fun w I => w = v ∧ I = I1) (fun w I q => by obtain ⟨rfl, rfl⟩ := q; rfl) I v I1 h1 ⟨rfl, rfl⟩
  · cases h
theorem S_Matching_allow {d : Nat} (hd : 2 ≤ d) : Snd L X d 127 3 (W_Matching_allow F_Matching_allow) := by
  obtain ⟨e, rfl⟩ : ∃ e, d = e + 1 := ⟨d - 1, by omega⟩
  exact w_Matching_allow ⟨S_A_within (by omega), trivial⟩
set_option maxRecDepth 100000 in
theorem z_Table_at : pT[36]? = some (q_Table_at, 3, 4, 1, 8) := rfl
def W_Table_at (F : Nat → Int32 → Int32 → M Int32) : CSem := fun _ args k => match args with
  | [(t0, .ref a0), (_, .int a1), (_, .int a2)] => mB (Nat.beq t0 108) <| bn (F a0 a1 a2) fun v => k (some (0, .int v))
  | _ => fl
def cs_Table_at : List (Nat × Nat × CSem) := []
def K_Table_at_28 (r0 : Nat) (x1 : Int32) (x2 : Int32) : M (Int32) :=
  (if (0 : Int32) = 0 then
    rt (-1 : Int32)
  else
    bn (rd r0 0) fun v1 =>
    bn (ld (siz shT (r0 + 1)) (r0 + 1) ((x1 * v1) + x2)) fun v2 =>
    rt v2)
set_option maxRecDepth 4000 in
theorem e_s_Table_at_28 (r0 : Nat) (x1 : Int32) (x2 : Int32) : wf (β := Int32) L X q_Table_at 1 cs_Table_at [3] [28] (fun _ _ _ => fl) (fun v => match v with | some (_, .int x) => rt x | _ => fl) 35 28 [(108, .ref r0), (0, .int x1), (0, .int x2), (0, dV)] [] = ((if (0 : Int32) = 0 then
    rt (-1 : Int32)
  else
    bn (rd r0 0) fun v1 =>
    bn (ld (siz shT (r0 + 1)) (r0 + 1) ((x1 * v1) + x2)) fun v2 =>
    rt v2)) := rfl
theorem s_Table_at_28 {d : Nat} (hcs : AllS L X d cs_Table_at) (r0 : Nat) (x1 : Int32) (x2 : Int32) (t0 : okB 108 r0 = true) {o : Option Value × PH} {Q : (Int32) → MI → Prop} (q0 : ∀ v I, Q v I → o = (some (.int v), HH I)) (I : MI) (r : Int32) (I1 : MI) (h : K_Table_at_28 r0 x1 x2 I = some (r, I1)) (hq : Q r I1) : At L X (d + 1) 36 28 [(108, .ref r0), (0, .int x1), (0, .int x2), (0, dV)] [] I o := by
  refine wf_ok z_Table_at hcs ?_ ?_ _ _ _ _ _ ⟨t0, trivial, trivial, trivial, trivial⟩ trivial (unm_refl _ _) ((congrFun (e_s_Table_at_28 (L := L) (X := X) r0 x1 x2) I).trans h)
  · intro pc ls st I2 h1 h2 h3 h
    cases h
  · intro v I2 _ h
    split at h
    · cases h; exact q0 _ _ hq
    · cases h
def F_Table_at (r0 : Nat) (x1 : Int32) (x2 : Int32) : M (Int32) :=
  (if x1 < 0 then
    K_Table_at_28 r0 x1 x2
  else
    bn (rd r0 3) fun v1 =>
    (if x1 < v1 then
      (if x2 < 0 then
        K_Table_at_28 r0 x1 x2
      else
        bn (rd r0 0) fun v2 =>
        (if x2 < v2 then
          (if (1 : Int32) = 0 then
            rt (-1 : Int32)
          else
            bn (rd r0 0) fun v3 =>
            bn (ld (siz shT (r0 + 1)) (r0 + 1) ((x1 * v3) + x2)) fun v4 =>
            rt v4)
        else
          K_Table_at_28 r0 x1 x2))
    else
      K_Table_at_28 r0 x1 x2))
set_option maxRecDepth 4000 in
theorem e_s_Table_at_0 (k_28 : Nat → Int32 → Int32 → M (Int32)) (r0 : Nat) (x1 : Int32) (x2 : Int32) : wf (β := Int32) L X q_Table_at 1 cs_Table_at [3] [28] (fun pc ls st => mC (Nat.beq pc 28) (mN st <| gD ls 3 <| k_28 r0 x1 x2) (fl)) (fun v => match v with | some (_, .int x) => rt x | _ => fl) 35 0 [(108, .ref r0), (0, .int x1), (0, .int x2), (0, dV)] [] = ((if x1 < 0 then
    k_28 r0 x1 x2
  else
    bn (rd r0 3) fun v1 =>
    (if x1 < v1 then
      (if x2 < 0 then
        k_28 r0 x1 x2
      else
        bn (rd r0 0) fun v2 =>
        (if x2 < v2 then
          (if (1 : Int32) = 0 then
            rt (-1 : Int32)
          else
            bn (rd r0 0) fun v3 =>
            bn (ld (siz shT (r0 + 1)) (r0 + 1) ((x1 * v3) + x2)) fun v4 =>
            rt v4)
        else
          k_28 r0 x1 x2))
    else
      k_28 r0 x1 x2))) := rfl
theorem s_Table_at_0 {d : Nat} (hcs : AllS L X d cs_Table_at) (r0 : Nat) (x1 : Int32) (x2 : Int32) (t0 : okB 108 r0 = true) {o : Option Value × PH} {Q : (Int32) → MI → Prop} (q0 : ∀ v I, Q v I → o = (some (.int v), HH I)) (I : MI) (r : Int32) (I1 : MI) (h : F_Table_at r0 x1 x2 I = some (r, I1)) (hq : Q r I1) : At L X (d + 1) 36 0 [(108, .ref r0), (0, .int x1), (0, .int x2), (0, dV)] [] I o := by
  refine wf_ok z_Table_at hcs ?_ ?_ _ _ _ _ _ ⟨t0, trivial, trivial, trivial, trivial⟩ trivial (unm_refl _ _) ((congrFun (e_s_Table_at_0 (L := L) (X := X) K_Table_at_28 r0 x1 x2) I).trans h)
  · intro pc ls st I2 h1 h2 h3 h
    rcases mC_ok h with ⟨hb, h⟩ | ⟨_, h⟩
    · have e := Nat.eq_of_beq_eq_true hb
      subst e
      obtain ⟨hst, h⟩ := mN_ok h
      subst hst
      obtain ⟨n3, h⟩ := gD_ok h
      refine at_leaf (ls2 := [(108, .ref r0), (0, .int x1), (0, .int x2), (0, dV)]) h3.1 ⟨Or.inr ⟨_, (h3.2 0 rfl).trans rfl⟩, Or.inr ⟨_, (h3.2 1 rfl).trans rfl⟩, Or.inr ⟨_, (h3.2 2 rfl).trans rfl⟩, Or.inl ⟨rfl, n3⟩, trivial⟩ ?_
      exact s_Table_at_28 hcs r0 x1 x2 t0 q0 _ _ _ h hq
    cases h
  · intro v I2 _ h
    split at h
    · cases h; exact q0 _ _ hq
    · cases h
theorem w_Table_at {d : Nat} (hcs : AllS L X d cs_Table_at) : Snd L X (d + 1) 36 3 (W_Table_at F_Table_at) := by
  refine ⟨_, z_Table_at, rfl, fun β args k I r hty hlen h => ?_⟩
  unfold W_Table_at at h
  split at h
  · rename_i t0 a0 u1 a1 u2 a2
    obtain ⟨hb0, h⟩ := mB_ok h
    have e0 := Nat.eq_of_beq_eq_true hb0
    have g0 : okB 108 a0 = true := e0 ▸ hty.1
    obtain ⟨v, I1, h1, h2⟩ := bn_some h
    refine ⟨gf_obj (c := 8) (by decide) g0, rfl, some (0, .int v), I1, trivial, ?_, h2⟩
    exact s_Table_at_0 hcs a0 a1 a2 g0 (Q := fun w I => w = v ∧ I = I1) (fun w I q => by obtain ⟨rfl, rfl⟩ := q; rfl) I v I1 h1 ⟨rfl, rfl⟩
  · cases h
theorem S_Table_at {d : Nat} (hd : 1 ≤ d) : Snd L X d 36 3 (W_Table_at F_Table_at) := by
  obtain ⟨e, rfl⟩ : ∃ e, d = e + 1 := ⟨d - 1, by omega⟩
  exact w_Table_at trivial
set_option maxRecDepth 100000 in
theorem z_Riddles_allowBeds : pT[166]? = some (q_Riddles_allowBeds, 1, 5, 0, 6) := rfl
def W_Riddles_allowBeds (F : M Unit) : CSem := fun _ args k => match args with
  | [(t0, .ref a0)] => mB (Nat.beq t0 106) <| bn (F) fun _ => k none
  | _ => fl
def cs_Riddles_allowBeds (f_A_within : Int32 → Int32 → Int32 → M Int32) (f_Matching_allow : Nat → Int32 → Int32 → M Unit) (f_Table_at : Nat → Int32 → Int32 → M Int32) : List (Nat × Nat × CSem) := [(18, 3, W_A_within f_A_within), (127, 3, W_Matching_allow f_Matching_allow), (36, 3, W_Table_at f_Table_at)]
def B_Riddles_allowBeds_20 (x1 : Int32) (y : Int32 × Int32) : M ((Int32 × Int32) ⊕ ((Int32))) :=
  bn (rd 41 3) fun v1 =>
  (if y.2 < v1 then
    bn (F_Table_at 39 x1 (0 : Int32)) fun v2 =>
    bn (F_Table_at 41 y.2 (0 : Int32)) fun v3 =>
    bn (F_Table_at 41 y.2 (1 : Int32)) fun v4 =>
    bn (F_A_within v2 v3 v4) fun v5 =>
    (if v5 = 0 then
      rt (.inl ((y.1 ||| (0 : Int32)), (y.2 + (1 : Int32))))
    else
      rt (.inl ((y.1 ||| ((1 : Int32) <<< (y.2 &&& 31))), (y.2 + (1 : Int32)))))
  else
    rt (.inr y.1))
set_option maxRecDepth 4000 in
theorem e_b_Riddles_allowBeds_20 (f_A_within : Int32 → Int32 → Int32 → M Int32) (f_Matching_allow : Nat → Int32 → Int32 → M Unit) (f_Table_at : Nat → Int32 → Int32 → M Int32) (x1 : Int32) (y : Int32 × Int32) : wf (β := (Int32 × Int32) ⊕ ((Int32))) L X q_Riddles_allowBeds 0 (cs_Riddles_allowBeds f_A_within f_Matching_allow f_Table_at) [2, 3, 4] [2, 20, 96] (fun pc ls st => mC (Nat.beq pc 20) (mN st <| gI ls 2 fun a2 => gI ls 3 fun a3 => gD ls 4 <| rt (.inl (a2, a3))) (mC (Nat.beq pc 96) (mN st <| gI ls 2 fun a2 => gD ls 3 <| gD ls 4 <| rt (.inr a2)) (fl))) (fun _ => fl) 63 20 [(106, .ref 195), (0, .int x1), (0, .int y.1), (0, .int y.2), (0, dV)] [] = (bn (rd 41 3) fun v1 =>
  (if y.2 < v1 then
    bn (f_Table_at 39 x1 (0 : Int32)) fun v2 =>
    bn (f_Table_at 41 y.2 (0 : Int32)) fun v3 =>
    bn (f_Table_at 41 y.2 (1 : Int32)) fun v4 =>
    bn (f_A_within v2 v3 v4) fun v5 =>
    (if v5 = 0 then
      rt (.inl ((y.1 ||| (0 : Int32)), (y.2 + (1 : Int32))))
    else
      rt (.inl ((y.1 ||| ((1 : Int32) <<< (y.2 &&& 31))), (y.2 + (1 : Int32)))))
  else
    rt (.inr y.1))) := rfl
theorem b_Riddles_allowBeds_20 {d : Nat} (hcs : AllS L X d (cs_Riddles_allowBeds F_A_within F_Matching_allow F_Table_at)) (x1 : Int32) {o : Option Value × PH} {Q : ((Int32 × Int32) ⊕ ((Int32))) → MI → Prop} (qb : ∀ y I, Q (.inl y) I → At L X (d + 1) 166 20 [(106, .ref 195), (0, .int x1), (0, .int y.1), (0, .int y.2), (0, dV)] [] I o) (qe96 : ∀ y I, Q (.inr y) I → At L X (d + 1) 166 96 [(106, .ref 195), (0, .int x1), (0, .int y), (0, dV), (0, dV)] [] I o) (y : Int32 × Int32) (I : MI) (r : (Int32 × Int32) ⊕ ((Int32))) (I1 : MI) (h : B_Riddles_allowBeds_20 x1 y I = some (r, I1)) (hq : Q r I1) : At L X (d + 1) 166 20 [(106, .ref 195), (0, .int x1), (0, .int y.1), (0, .int y.2), (0, dV)] [] I o := by
  refine wf_ok z_Riddles_allowBeds hcs ?_ ?_ _ _ _ _ _ ⟨rfl, trivial, trivial, trivial, trivial, trivial⟩ trivial (unm_refl _ _) ((congrFun (e_b_Riddles_allowBeds_20 (L := L) (X := X) F_A_within F_Matching_allow F_Table_at x1 y) I).trans h)
  · intro pc ls st I2 h1 h2 h3 h
    rcases mC_ok h with ⟨hb, h⟩ | ⟨_, h⟩
    · have e := Nat.eq_of_beq_eq_true hb
      subst e
      obtain ⟨hst, h⟩ := mN_ok h
      subst hst
      obtain ⟨a2, n2, h⟩ := gI_ok h
      obtain ⟨a3, n3, h⟩ := gI_ok h
      obtain ⟨n4, h⟩ := gD_ok h
      refine at_leaf (ls2 := [(106, .ref 195), (0, .int x1), (0, .int a2), (0, .int a3), (0, dV)]) h3.1 ⟨Or.inr ⟨_, (h3.2 0 rfl).trans rfl⟩, Or.inr ⟨_, (h3.2 1 rfl).trans rfl⟩, Or.inr n2, Or.inr n3, Or.inl ⟨rfl, n4⟩, trivial⟩ ?_
      cases h; exact qb _ _ hq
    rcases mC_ok h with ⟨hb, h⟩ | ⟨_, h⟩
    · have e := Nat.eq_of_beq_eq_true hb
      subst e
      obtain ⟨hst, h⟩ := mN_ok h
      subst hst
      obtain ⟨a2, n2, h⟩ := gI_ok h
      obtain ⟨n3, h⟩ := gD_ok h
      obtain ⟨n4, h⟩ := gD_ok h
      refine at_leaf (ls2 := [(106, .ref 195), (0, .int x1), (0, .int a2), (0, dV), (0, dV)]) h3.1 ⟨Or.inr ⟨_, (h3.2 0 rfl).trans rfl⟩, Or.inr ⟨_, (h3.2 1 rfl).trans rfl⟩, Or.inr n2, Or.inl ⟨rfl, n3⟩, Or.inl ⟨rfl, n4⟩, trivial⟩ ?_
      cases h; exact qe96 _ _ hq
    cases h
  · intro v I2 _ h
    cases h
def K_Riddles_allowBeds_96 (x1 : Int32) (x2 : Int32) : M ((Int32) ⊕ (Unit)) :=
  bn (F_Matching_allow 199 x1 x2) fun _ =>
  rt (.inl (x1 + (1 : Int32)))
set_option maxRecDepth 4000 in
theorem e_s_Riddles_allowBeds_96 (f_A_within : Int32 → Int32 → Int32 → M Int32) (f_Matching_allow : Nat → Int32 → Int32 → M Unit) (f_Table_at : Nat → Int32 → Int32 → M Int32) (x1 : Int32) (x2 : Int32) : wf (β := (Int32) ⊕ (Unit)) L X q_Riddles_allowBeds 0 (cs_Riddles_allowBeds f_A_within f_Matching_allow f_Table_at) [1] [2, 20, 96] (fun pc ls st => mC (Nat.beq pc 2) (mN st <| gI ls 1 fun a1 => gD ls 2 <| gD ls 3 <| gD ls 4 <| rt (.inl a1)) (fl)) (fun v => match v with | none => rt (.inr ()) | _ => fl) 63 96 [(106, .ref 195), (0, .int x1), (0, .int x2), (0, dV), (0, dV)] [] = (bn (f_Matching_allow 199 x1 x2) fun _ =>
  rt (.inl (x1 + (1 : Int32)))) := rfl
theorem s_Riddles_allowBeds_96 {d : Nat} (hcs : AllS L X d (cs_Riddles_allowBeds F_A_within F_Matching_allow F_Table_at)) (x1 : Int32) (x2 : Int32) {o : Option Value × PH} {Q : ((Int32) ⊕ (Unit)) → MI → Prop} (qb : ∀ y I, Q (.inl y) I → At L X (d + 1) 166 2 [(106, .ref 195), (0, .int y), (0, dV), (0, dV), (0, dV)] [] I o) (qr : ∀ v I, Q (.inr v) I → o = (none, HH I)) (I : MI) (r : (Int32) ⊕ (Unit)) (I1 : MI) (h : K_Riddles_allowBeds_96 x1 x2 I = some (r, I1)) (hq : Q r I1) : At L X (d + 1) 166 96 [(106, .ref 195), (0, .int x1), (0, .int x2), (0, dV), (0, dV)] [] I o := by
  refine wf_ok z_Riddles_allowBeds hcs ?_ ?_ _ _ _ _ _ ⟨rfl, trivial, trivial, trivial, trivial, trivial⟩ trivial (unm_refl _ _) ((congrFun (e_s_Riddles_allowBeds_96 (L := L) (X := X) F_A_within F_Matching_allow F_Table_at x1 x2) I).trans h)
  · intro pc ls st I2 h1 h2 h3 h
    rcases mC_ok h with ⟨hb, h⟩ | ⟨_, h⟩
    · have e := Nat.eq_of_beq_eq_true hb
      subst e
      obtain ⟨hst, h⟩ := mN_ok h
      subst hst
      obtain ⟨a1, n1, h⟩ := gI_ok h
      obtain ⟨n2, h⟩ := gD_ok h
      obtain ⟨n3, h⟩ := gD_ok h
      obtain ⟨n4, h⟩ := gD_ok h
      refine at_leaf (ls2 := [(106, .ref 195), (0, .int a1), (0, dV), (0, dV), (0, dV)]) h3.1 ⟨Or.inr ⟨_, (h3.2 0 rfl).trans rfl⟩, Or.inr n1, Or.inl ⟨rfl, n2⟩, Or.inl ⟨rfl, n3⟩, Or.inl ⟨rfl, n4⟩, trivial⟩ ?_
      cases h; exact qb _ _ hq
    cases h
  · intro v I2 _ h
    split at h
    · cases h; exact qr _ _ hq
    · cases h
def K_Riddles_allowBeds_20 (x1 : Int32) (x2 : Int32) (x3 : Int32) : M ((Int32) ⊕ (Unit)) :=
  bn (lp (B_Riddles_allowBeds_20 x1) FU (x2, x3)) fun e => K_Riddles_allowBeds_96 x1 e
theorem s_Riddles_allowBeds_20 {d : Nat} (hcs : AllS L X d (cs_Riddles_allowBeds F_A_within F_Matching_allow F_Table_at)) (x1 : Int32) (x2 : Int32) (x3 : Int32) {o : Option Value × PH} {Q : ((Int32) ⊕ (Unit)) → MI → Prop} (qb : ∀ y I, Q (.inl y) I → At L X (d + 1) 166 2 [(106, .ref 195), (0, .int y), (0, dV), (0, dV), (0, dV)] [] I o) (qr : ∀ v I, Q (.inr v) I → o = (none, HH I)) (I : MI) (r : (Int32) ⊕ (Unit)) (I1 : MI) (h : K_Riddles_allowBeds_20 x1 x2 x3 I = some (r, I1)) (hq : Q r I1) : At L X (d + 1) 166 20 [(106, .ref 195), (0, .int x1), (0, .int x2), (0, .int x3), (0, dV)] [] I o := by
  unfold K_Riddles_allowBeds_20 at h
  obtain ⟨e, I2, h1, h2⟩ := bn_some h
  have w0 := fun w => at_lp (body := B_Riddles_allowBeds_20 x1) (P := (fun (y : Int32 × Int32) I => At L X (d + 1) 166 20 [(106, .ref 195), (0, .int x1), (0, .int y.1), (0, .int y.2), (0, dV)] [] I o)) (Q := (fun (e : (Int32)) I => (K_Riddles_allowBeds_96 x1 e) I = some (r, I1))) w FU (x2, x3) I e I2 h1 h2
  refine w0 ?_
  intro y I r2 I3 h hq2
  exact b_Riddles_allowBeds_20 hcs x1 (Q := SQ (fun (y : Int32 × Int32) I => At L X (d + 1) 166 20 [(106, .ref 195), (0, .int x1), (0, .int y.1), (0, .int y.2), (0, dV)] [] I o) (fun (e : (Int32)) I => (K_Riddles_allowBeds_96 x1 e) I = some (r, I1))) (fun _ _ w => w) (fun y I w => s_Riddles_allowBeds_96 hcs x1 y qb qr _ _ _ w hq) y I r2 I3 h hq2
def B_Riddles_allowBeds_2 (y : Int32) : M ((Int32) ⊕ (Unit)) :=
  bn (rd 39 3) fun v1 =>
  (if y < v1 then
    K_Riddles_allowBeds_20 y (0 : Int32) (0 : Int32)
  else
    rt (.inr ()))
set_option maxRecDepth 4000 in
theorem e_b_Riddles_allowBeds_2 (f_A_within : Int32 → Int32 → Int32 → M Int32) (f_Matching_allow : Nat → Int32 → Int32 → M Unit) (f_Table_at : Nat → Int32 → Int32 → M Int32) (k_20 : Int32 → Int32 → Int32 → M ((Int32) ⊕ (Unit))) (y : Int32) : wf (β := (Int32) ⊕ (Unit)) L X q_Riddles_allowBeds 0 (cs_Riddles_allowBeds f_A_within f_Matching_allow f_Table_at) [2, 3] [2, 20, 96] (fun pc ls st => mC (Nat.beq pc 20) (mN st <| gI ls 2 fun a2 => gI ls 3 fun a3 => gD ls 4 <| k_20 y a2 a3) (fl)) (fun v => match v with | none => rt (.inr ()) | _ => fl) 63 2 [(106, .ref 195), (0, .int y), (0, dV), (0, dV), (0, dV)] [] = (bn (rd 39 3) fun v1 =>
  (if y < v1 then
    k_20 y (0 : Int32) (0 : Int32)
  else
    rt (.inr ()))) := rfl
theorem b_Riddles_allowBeds_2 {d : Nat} (hcs : AllS L X d (cs_Riddles_allowBeds F_A_within F_Matching_allow F_Table_at)) {o : Option Value × PH} {Q : ((Int32) ⊕ (Unit)) → MI → Prop} (qb : ∀ y I, Q (.inl y) I → At L X (d + 1) 166 2 [(106, .ref 195), (0, .int y), (0, dV), (0, dV), (0, dV)] [] I o) (qr : ∀ v I, Q (.inr v) I → o = (none, HH I)) (y : Int32) (I : MI) (r : (Int32) ⊕ (Unit)) (I1 : MI) (h : B_Riddles_allowBeds_2 y I = some (r, I1)) (hq : Q r I1) : At L X (d + 1) 166 2 [(106, .ref 195), (0, .int y), (0, dV), (0, dV), (0, dV)] [] I o := by
  refine wf_ok z_Riddles_allowBeds hcs ?_ ?_ _ _ _ _ _ ⟨rfl, trivial, trivial, trivial, trivial, trivial⟩ trivial (unm_refl _ _) ((congrFun (e_b_Riddles_allowBeds_2 (L := L) (X := X) F_A_within F_Matching_allow F_Table_at K_Riddles_allowBeds_20 y) I).trans h)
  · intro pc ls st I2 h1 h2 h3 h
    rcases mC_ok h with ⟨hb, h⟩ | ⟨_, h⟩
    · have e := Nat.eq_of_beq_eq_true hb
      subst e
      obtain ⟨hst, h⟩ := mN_ok h
      subst hst
      obtain ⟨a2, n2, h⟩ := gI_ok h
      obtain ⟨a3, n3, h⟩ := gI_ok h
      obtain ⟨n4, h⟩ := gD_ok h
      refine at_leaf (ls2 := [(106, .ref 195), (0, .int y), (0, .int a2), (0, .int a3), (0, dV)]) h3.1 ⟨Or.inr ⟨_, (h3.2 0 rfl).trans rfl⟩, Or.inr ⟨_, (h3.2 1 rfl).trans rfl⟩, Or.inr n2, Or.inr n3, Or.inl ⟨rfl, n4⟩, trivial⟩ ?_
      exact s_Riddles_allowBeds_20 hcs y a2 a3 qb qr _ _ _ h hq
    cases h
  · intro v I2 _ h
    split at h
    · cases h; exact qr _ _ hq
    · cases h
def K_Riddles_allowBeds_2 (x1 : Int32) : M (Unit) :=
  lp (B_Riddles_allowBeds_2) FU x1
theorem s_Riddles_allowBeds_2 {d : Nat} (hcs : AllS L X d (cs_Riddles_allowBeds F_A_within F_Matching_allow F_Table_at)) (x1 : Int32) {o : Option Value × PH} {Q : (Unit) → MI → Prop} (q0 : ∀ v I, Q v I → o = (none, HH I)) (I : MI) (r : Unit) (I1 : MI) (h : K_Riddles_allowBeds_2 x1 I = some (r, I1)) (hq : Q r I1) : At L X (d + 1) 166 2 [(106, .ref 195), (0, .int x1), (0, dV), (0, dV), (0, dV)] [] I o := by
  unfold K_Riddles_allowBeds_2 at h
  have w0 := fun w => at_lp (body := B_Riddles_allowBeds_2) (P := (fun (y : Int32) I => At L X (d + 1) 166 2 [(106, .ref 195), (0, .int y), (0, dV), (0, dV), (0, dV)] [] I o)) (Q := (fun (e : Unit) I => Q e I)) w FU x1 I r I1 h hq
  refine w0 ?_
  intro y I r I1 h hq
  exact b_Riddles_allowBeds_2 hcs (Q := SQ (fun (y : Int32) I => At L X (d + 1) 166 2 [(106, .ref 195), (0, .int y), (0, dV), (0, dV), (0, dV)] [] I o) (fun (e : Unit) I => Q e I)) (fun _ _ w => w) q0 y I r I1 h hq
def F_Riddles_allowBeds : M (Unit) :=
  K_Riddles_allowBeds_2 (0 : Int32)
set_option maxRecDepth 4000 in
theorem e_s_Riddles_allowBeds_0 (f_A_within : Int32 → Int32 → Int32 → M Int32) (f_Matching_allow : Nat → Int32 → Int32 → M Unit) (f_Table_at : Nat → Int32 → Int32 → M Int32) (k_2 : Int32 → M (Unit)) : wf (β := Unit) L X q_Riddles_allowBeds 0 (cs_Riddles_allowBeds f_A_within f_Matching_allow f_Table_at) [1] [2, 20, 96] (fun pc ls st => mC (Nat.beq pc 2) (mN st <| gI ls 1 fun a1 => gD ls 2 <| gD ls 3 <| gD ls 4 <| k_2 a1) (fl)) (fun v => match v with | none => rt () | _ => fl) 63 0 [(106, .ref 195), (0, dV), (0, dV), (0, dV), (0, dV)] [] = (k_2 (0 : Int32)) := rfl
theorem s_Riddles_allowBeds_0 {d : Nat} (hcs : AllS L X d (cs_Riddles_allowBeds F_A_within F_Matching_allow F_Table_at)) {o : Option Value × PH} {Q : (Unit) → MI → Prop} (q0 : ∀ v I, Q v I → o = (none, HH I)) (I : MI) (r : Unit) (I1 : MI) (h : F_Riddles_allowBeds I = some (r, I1)) (hq : Q r I1) : At L X (d + 1) 166 0 [(106, .ref 195), (0, dV), (0, dV), (0, dV), (0, dV)] [] I o := by
  refine wf_ok z_Riddles_allowBeds hcs ?_ ?_ _ _ _ _ _ ⟨rfl, trivial, trivial, trivial, trivial, trivial⟩ trivial (unm_refl _ _) ((congrFun (e_s_Riddles_allowBeds_0 (L := L) (X := X) F_A_within F_Matching_allow F_Table_at K_Riddles_allowBeds_2) I).trans h)
  · intro pc ls st I2 h1 h2 h3 h
    rcases mC_ok h with ⟨hb, h⟩ | ⟨_, h⟩
    · have e := Nat.eq_of_beq_eq_true hb
      subst e
      obtain ⟨hst, h⟩ := mN_ok h
      subst hst
      obtain ⟨a1, n1, h⟩ := gI_ok h
      obtain ⟨n2, h⟩ := gD_ok h
      obtain ⟨n3, h⟩ := gD_ok h
      obtain ⟨n4, h⟩ := gD_ok h
      refine at_leaf (ls2 := [(106, .ref 195), (0, .int a1), (0, dV), (0, dV), (0, dV)]) h3.1 ⟨Or.inr ⟨_, (h3.2 0 rfl).trans rfl⟩, Or.inr n1, Or.inl ⟨rfl, n2⟩, Or.inl ⟨rfl, n3⟩, Or.inl ⟨rfl, n4⟩, trivial⟩ ?_
      exact s_Riddles_allowBeds_2 hcs a1 q0 _ _ _ h hq
    cases h
  · intro v I2 _ h
    split at h
    · cases h; exact q0 _ _ hq
    · cases h
theorem w_Riddles_allowBeds {d : Nat} (hcs : AllS L X d (cs_Riddles_allowBeds F_A_within F_Matching_allow F_Table_at)) : Snd L X (d + 1) 166 1 (W_Riddles_allowBeds F_Riddles_allowBeds) := by
  refine ⟨_, z_Riddles_allowBeds, rfl, fun β args k I r hty hlen h => ?_⟩
  unfold W_Riddles_allowBeds at h
  split at h
  · rename_i t0 a0
    obtain ⟨hb0, h⟩ := mB_ok h
    have e0 := Nat.eq_of_beq_eq_true hb0
    have g0 : okB 106 a0 = true := e0 ▸ hty.1
    have e20 := one_106 g0
    subst e20
    obtain ⟨v, I1, h1, h2⟩ := bn_some h
    refine ⟨gf_obj (c := 6) (by decide) g0, rfl, none, I1, trivial, ?_, h2⟩
    exact s_Riddles_allowBeds_0 hcs   (Q := fun w I => w = v ∧ I = I1) (fun w I q => by obtain ⟨rfl, rfl⟩ := q; rfl) I v I1 h1 ⟨rfl, rfl⟩
  · cases h
theorem S_Riddles_allowBeds {d : Nat} (hd : 3 ≤ d) : Snd L X d 166 1 (W_Riddles_allowBeds F_Riddles_allowBeds) := by
  obtain ⟨e, rfl⟩ : ∃ e, d = e + 1 := ⟨d - 1, by omega⟩
  exact w_Riddles_allowBeds ⟨S_A_within (by omega), S_Matching_allow (by omega), S_Table_at (by omega), trivial⟩
set_option maxRecDepth 100000 in
theorem z_Riddles_bedOf : pT[167]? = some (q_Riddles_bedOf, 2, 2, 1, 6) := rfl
def W_Riddles_bedOf (F : Int32 → M Int32) : CSem := fun _ args k => match args with
  | [(t0, .ref a0), (_, .int a1)] => mB (Nat.beq t0 106) <| bn (F a1) fun v => k (some (0, .int v))
  | _ => fl
def cs_Riddles_bedOf (f_Matching_firstPlace : Nat → Int32 → Int32 → M Int32) (f_Riddles_allowBeds : M Unit) : List (Nat × Nat × CSem) := [(168, 3, W_Matching_firstPlace f_Matching_firstPlace), (166, 1, W_Riddles_allowBeds f_Riddles_allowBeds)]
def F_Riddles_bedOf (x1 : Int32) : M (Int32) :=
  bn (F_Riddles_allowBeds) fun _ =>
  bn (rd 39 3) fun v1 =>
  bn (F_Matching_firstPlace 199 v1 x1) fun v2 =>
  rt v2
set_option maxRecDepth 4000 in
theorem e_s_Riddles_bedOf_0 (f_Matching_firstPlace : Nat → Int32 → Int32 → M Int32) (f_Riddles_allowBeds : M Unit) (x1 : Int32) : wf (β := Int32) L X q_Riddles_bedOf 1 (cs_Riddles_bedOf f_Matching_firstPlace f_Riddles_allowBeds) [] [] (fun _ _ _ => fl) (fun v => match v with | some (_, .int x) => rt x | _ => fl) 16 0 [(106, .ref 195), (0, .int x1)] [] = (bn (f_Riddles_allowBeds) fun _ =>
  bn (rd 39 3) fun v1 =>
  bn (f_Matching_firstPlace 199 v1 x1) fun v2 =>
  rt v2) := rfl
theorem s_Riddles_bedOf_0 {d : Nat} (hcs : AllS L X d (cs_Riddles_bedOf F_Matching_firstPlace F_Riddles_allowBeds)) (x1 : Int32) {o : Option Value × PH} {Q : (Int32) → MI → Prop} (q0 : ∀ v I, Q v I → o = (some (.int v), HH I)) (I : MI) (r : Int32) (I1 : MI) (h : F_Riddles_bedOf x1 I = some (r, I1)) (hq : Q r I1) : At L X (d + 1) 167 0 [(106, .ref 195), (0, .int x1)] [] I o := by
  refine wf_ok z_Riddles_bedOf hcs ?_ ?_ _ _ _ _ _ ⟨rfl, trivial, trivial⟩ trivial (unm_refl _ _) ((congrFun (e_s_Riddles_bedOf_0 (L := L) (X := X) F_Matching_firstPlace F_Riddles_allowBeds x1) I).trans h)
  · intro pc ls st I2 h1 h2 h3 h
    cases h
  · intro v I2 _ h
    split at h
    · cases h; exact q0 _ _ hq
    · cases h
theorem w_Riddles_bedOf {d : Nat} (hcs : AllS L X d (cs_Riddles_bedOf F_Matching_firstPlace F_Riddles_allowBeds)) : Snd L X (d + 1) 167 2 (W_Riddles_bedOf F_Riddles_bedOf) := by
  refine ⟨_, z_Riddles_bedOf, rfl, fun β args k I r hty hlen h => ?_⟩
  unfold W_Riddles_bedOf at h
  split at h
  · rename_i t0 a0 u1 a1
    obtain ⟨hb0, h⟩ := mB_ok h
    have e0 := Nat.eq_of_beq_eq_true hb0
    have g0 : okB 106 a0 = true := e0 ▸ hty.1
    have e20 := one_106 g0
    subst e20
    obtain ⟨v, I1, h1, h2⟩ := bn_some h
    refine ⟨gf_obj (c := 6) (by decide) g0, rfl, some (0, .int v), I1, trivial, ?_, h2⟩
    exact s_Riddles_bedOf_0 hcs a1  (Q := fun w I => w = v ∧ I = I1) (fun w I q => by obtain ⟨rfl, rfl⟩ := q; rfl) I v I1 h1 ⟨rfl, rfl⟩
  · cases h
theorem S_Riddles_bedOf {d : Nat} (hd : 34 ≤ d) : Snd L X d 167 2 (W_Riddles_bedOf F_Riddles_bedOf) := by
  obtain ⟨e, rfl⟩ : ∃ e, d = e + 1 := ⟨d - 1, by omega⟩
  exact w_Riddles_bedOf ⟨S_Matching_firstPlace (by omega), S_Riddles_allowBeds (by omega), trivial⟩
set_option maxRecDepth 100000 in
theorem z_Riddles_bootsAbed : pT[165]? = some (q_Riddles_bootsAbed, 1, 1, 1, 6) := rfl
def W_Riddles_bootsAbed (F : M Int32) : CSem := fun _ args k => match args with
  | [(t0, .ref a0)] => mB (Nat.beq t0 106) <| bn (F) fun v => k (some (0, .int v))
  | _ => fl
def cs_Riddles_bootsAbed (f_Matching_most : Nat → Int32 → Int32 → Int32 → M Int32) (f_Riddles_allowBeds : M Unit) : List (Nat × Nat × CSem) := [(128, 4, W_Matching_most f_Matching_most), (166, 1, W_Riddles_allowBeds f_Riddles_allowBeds)]
def F_Riddles_bootsAbed : M (Int32) :=
  bn (F_Riddles_allowBeds) fun _ =>
  bn (rd 39 3) fun v1 =>
  bn (F_Matching_most 199 (0 : Int32) v1 (0 : Int32)) fun v2 =>
  rt v2
set_option maxRecDepth 4000 in
theorem e_s_Riddles_bootsAbed_0 (f_Matching_most : Nat → Int32 → Int32 → Int32 → M Int32) (f_Riddles_allowBeds : M Unit) : wf (β := Int32) L X q_Riddles_bootsAbed 1 (cs_Riddles_bootsAbed f_Matching_most f_Riddles_allowBeds) [] [] (fun _ _ _ => fl) (fun v => match v with | some (_, .int x) => rt x | _ => fl) 17 0 [(106, .ref 195)] [] = (bn (f_Riddles_allowBeds) fun _ =>
  bn (rd 39 3) fun v1 =>
  bn (f_Matching_most 199 (0 : Int32) v1 (0 : Int32)) fun v2 =>
  rt v2) := rfl
theorem s_Riddles_bootsAbed_0 {d : Nat} (hcs : AllS L X d (cs_Riddles_bootsAbed F_Matching_most F_Riddles_allowBeds)) {o : Option Value × PH} {Q : (Int32) → MI → Prop} (q0 : ∀ v I, Q v I → o = (some (.int v), HH I)) (I : MI) (r : Int32) (I1 : MI) (h : F_Riddles_bootsAbed I = some (r, I1)) (hq : Q r I1) : At L X (d + 1) 165 0 [(106, .ref 195)] [] I o := by
  refine wf_ok z_Riddles_bootsAbed hcs ?_ ?_ _ _ _ _ _ ⟨rfl, trivial⟩ trivial (unm_refl _ _) ((congrFun (e_s_Riddles_bootsAbed_0 (L := L) (X := X) F_Matching_most F_Riddles_allowBeds) I).trans h)
  · intro pc ls st I2 h1 h2 h3 h
    cases h
  · intro v I2 _ h
    split at h
    · cases h; exact q0 _ _ hq
    · cases h
theorem w_Riddles_bootsAbed {d : Nat} (hcs : AllS L X d (cs_Riddles_bootsAbed F_Matching_most F_Riddles_allowBeds)) : Snd L X (d + 1) 165 1 (W_Riddles_bootsAbed F_Riddles_bootsAbed) := by
  refine ⟨_, z_Riddles_bootsAbed, rfl, fun β args k I r hty hlen h => ?_⟩
  unfold W_Riddles_bootsAbed at h
  split at h
  · rename_i t0 a0
    obtain ⟨hb0, h⟩ := mB_ok h
    have e0 := Nat.eq_of_beq_eq_true hb0
    have g0 : okB 106 a0 = true := e0 ▸ hty.1
    have e20 := one_106 g0
    subst e20
    obtain ⟨v, I1, h1, h2⟩ := bn_some h
    refine ⟨gf_obj (c := 6) (by decide) g0, rfl, some (0, .int v), I1, trivial, ?_, h2⟩
    exact s_Riddles_bootsAbed_0 hcs   (Q := fun w I => w = v ∧ I = I1) (fun w I q => by obtain ⟨rfl, rfl⟩ := q; rfl) I v I1 h1 ⟨rfl, rfl⟩
  · cases h
theorem S_Riddles_bootsAbed {d : Nat} (hd : 32 ≤ d) : Snd L X d 165 1 (W_Riddles_bootsAbed F_Riddles_bootsAbed) := by
  obtain ⟨e, rfl⟩ : ∃ e, d = e + 1 := ⟨d - 1, by omega⟩
  exact w_Riddles_bootsAbed ⟨S_Matching_most (by omega), S_Riddles_allowBeds (by omega), trivial⟩
set_option maxRecDepth 100000 in
theorem z_A_beds : pT[164]? = some (q_A_beds, 2, 3, 1, 11) := rfl
def W_A_beds (F : Int32 → M Int32) : CSem := fun _ args k => match args with
  | [(t0, .ref a0), (_, .int a1)] => mB (Nat.beq t0 111) <| bn (F a1) fun v => k (some (0, .int v))
  | _ => fl
def cs_A_beds (f_Riddles_bedOf : Int32 → M Int32) (f_Riddles_bootsAbed : M Int32) : List (Nat × Nat × CSem) := [(167, 2, W_Riddles_bedOf f_Riddles_bedOf), (165, 1, W_Riddles_bootsAbed f_Riddles_bootsAbed)]
def F_A_beds (x1 : Int32) : M (Int32) :=
  (if x1 = 0 then
    bn (F_Riddles_bootsAbed) fun v5 =>
    rt v5
  else
    (if x1 < (10 : Int32) then
      (if (0 : Int32) = 0 then
        rt (-1 : Int32)
      else
        bn (F_Riddles_bedOf (x1 - (10 : Int32))) fun v1 =>
        rt v1)
    else
      bn (rd 39 3) fun v2 =>
      (if (x1 - (10 : Int32)) < v2 then
        (if (1 : Int32) = 0 then
          rt (-1 : Int32)
        else
          bn (F_Riddles_bedOf (x1 - (10 : Int32))) fun v4 =>
          rt v4)
      else
        (if (0 : Int32) = 0 then
          rt (-1 : Int32)
        else
          bn (F_Riddles_bedOf (x1 - (10 : Int32))) fun v3 =>
          rt v3))))
set_option maxRecDepth 4000 in
theorem e_s_A_beds_0 (f_Riddles_bedOf : Int32 → M Int32) (f_Riddles_bootsAbed : M Int32) (x1 : Int32) : wf (β := Int32) L X q_A_beds 1 (cs_A_beds f_Riddles_bedOf f_Riddles_bootsAbed) [2] [] (fun _ _ _ => fl) (fun v => match v with | some (_, .int x) => rt x | _ => fl) 37 0 [(111, .ref 0), (0, .int x1), (0, dV)] [] = ((if x1 = 0 then
    bn (f_Riddles_bootsAbed) fun v5 =>
    rt v5
  else
    (if x1 < (10 : Int32) then
      (if (0 : Int32) = 0 then
        rt (-1 : Int32)
      else
        bn (f_Riddles_bedOf (x1 - (10 : Int32))) fun v1 =>
        rt v1)
    else
      bn (rd 39 3) fun v2 =>
      (if (x1 - (10 : Int32)) < v2 then
        (if (1 : Int32) = 0 then
          rt (-1 : Int32)
        else
          bn (f_Riddles_bedOf (x1 - (10 : Int32))) fun v4 =>
          rt v4)
      else
        (if (0 : Int32) = 0 then
          rt (-1 : Int32)
        else
          bn (f_Riddles_bedOf (x1 - (10 : Int32))) fun v3 =>
          rt v3))))) := rfl
theorem s_A_beds_0 {d : Nat} (hcs : AllS L X d (cs_A_beds F_Riddles_bedOf F_Riddles_bootsAbed)) (x1 : Int32) {o : Option Value × PH} {Q : (Int32) → MI → Prop} (q0 : ∀ v I, Q v I → o = (some (.int v), HH I)) (I : MI) (r : Int32) (I1 : MI) (h : F_A_beds x1 I = some (r, I1)) (hq : Q r I1) : At L X (d + 1) 164 0 [(111, .ref 0), (0, .int x1), (0, dV)] [] I o := by
  refine wf_ok z_A_beds hcs ?_ ?_ _ _ _ _ _ ⟨rfl, trivial, trivial, trivial⟩ trivial (unm_refl _ _) ((congrFun (e_s_A_beds_0 (L := L) (X := X) F_Riddles_bedOf F_Riddles_bootsAbed x1) I).trans h)
  · intro pc ls st I2 h1 h2 h3 h
    cases h
  · intro v I2 _ h
    split at h
    · cases h; exact q0 _ _ hq
    · cases h
theorem w_A_beds {d : Nat} (hcs : AllS L X d (cs_A_beds F_Riddles_bedOf F_Riddles_bootsAbed)) : Snd L X (d + 1) 164 2 (W_A_beds F_A_beds) := by
  refine ⟨_, z_A_beds, rfl, fun β args k I r hty hlen h => ?_⟩
  unfold W_A_beds at h
  split at h
  · rename_i t0 a0 u1 a1
    obtain ⟨hb0, h⟩ := mB_ok h
    have e0 := Nat.eq_of_beq_eq_true hb0
    have g0 : okB 111 a0 = true := e0 ▸ hty.1
    have e20 := one_111 g0
    subst e20
    obtain ⟨v, I1, h1, h2⟩ := bn_some h
    refine ⟨gf_obj (c := 11) (by decide) g0, rfl, some (0, .int v), I1, trivial, ?_, h2⟩
    exact s_A_beds_0 hcs a1  (Q := fun w I => w = v ∧ I = I1) (fun w I q => by obtain ⟨rfl, rfl⟩ := q; rfl) I v I1 h1 ⟨rfl, rfl⟩
  · cases h
theorem S_A_beds {d : Nat} (hd : 35 ≤ d) : Snd L X d 164 2 (W_A_beds F_A_beds) := by
  obtain ⟨e, rfl⟩ : ∃ e, d = e + 1 := ⟨d - 1, by omega⟩
  exact w_A_beds ⟨S_Riddles_bedOf (by omega), S_Riddles_bootsAbed (by omega), trivial⟩
set_option maxRecDepth 100000 in
theorem z_Riddles_commonDivisor : pT[156]? = some (q_Riddles_commonDivisor, 2, 7, 3, 99) := rfl
def W_Riddles_commonDivisor (F : Int64 → Int64 → M Int64) : CSem := fun _ args k => match args with
  | [(_, .long a0), (_, .long a1)] => bn (F a0 a1) fun v => k (some (0, .long v))
  | _ => fl
def cs_Riddles_commonDivisor : List (Nat × Nat × CSem) := []
def B_Riddles_commonDivisor_3 (y : Int64 × Int64 × Int32 × Int64) : M ((Int64 × Int64 × Int32 × Int64) ⊕ (Int64)) :=
  (if y.2.2.1 < (1000 : Int32) then
    (if (lg_cmp y.2.1 0) = 0 then
      rt (.inr (if y.1 < 1 then 1 else y.1))
    else
      dvJ y.2.1 <|
      rt (.inl (y.2.1, (y.1 - y.1 / y.2.1 * y.2.1), (y.2.2.1 + (1 : Int32)), (y.1 - y.1 / y.2.1 * y.2.1))))
  else
    rt (.inr (if y.1 < 1 then 1 else y.1)))
set_option maxRecDepth 4000 in
theorem e_b_Riddles_commonDivisor_3 (y : Int64 × Int64 × Int32 × Int64) : wf (β := (Int64 × Int64 × Int32 × Int64) ⊕ (Int64)) L X q_Riddles_commonDivisor 3 cs_Riddles_commonDivisor [0, 1, 2, 3, 4, 5, 6] [3] (fun pc ls st => mC (Nat.beq pc 3) (mN st <| gJ ls 0 fun a0 => gD ls 1 <| gJ ls 2 fun a2 => gD ls 3 <| gI ls 4 fun a4 => gJ ls 5 fun a5 => gD ls 6 <| rt (.inl (a0, a2, a4, a5))) (fl)) (fun v => match v with | some (_, .long x) => rt (.inr x) | _ => fl) 28 3 [(0, .long y.1), (0, dV), (0, .long y.2.1), (0, dV), (0, .int y.2.2.1), (0, .long y.2.2.2), (0, dV)] [] = ((if y.2.2.1 < (1000 : Int32) then
    (if (lg_cmp y.2.1 0) = 0 then
      rt (.inr (if y.1 < 1 then 1 else y.1))
    else
      dvJ y.2.1 <|
      rt (.inl (y.2.1, (y.1 - y.1 / y.2.1 * y.2.1), (y.2.2.1 + (1 : Int32)), (y.1 - y.1 / y.2.1 * y.2.1))))
  else
    rt (.inr (if y.1 < 1 then 1 else y.1)))) := rfl
theorem b_Riddles_commonDivisor_3 {d : Nat} (hcs : AllS L X d cs_Riddles_commonDivisor) {o : Option Value × PH} {Q : ((Int64 × Int64 × Int32 × Int64) ⊕ (Int64)) → MI → Prop} (qb : ∀ y I, Q (.inl y) I → At L X (d + 1) 156 3 [(0, .long y.1), (0, dV), (0, .long y.2.1), (0, dV), (0, .int y.2.2.1), (0, .long y.2.2.2), (0, dV)] [] I o) (qr : ∀ v I, Q (.inr v) I → o = (some (.long v), HH I)) (y : Int64 × Int64 × Int32 × Int64) (I : MI) (r : (Int64 × Int64 × Int32 × Int64) ⊕ (Int64)) (I1 : MI) (h : B_Riddles_commonDivisor_3 y I = some (r, I1)) (hq : Q r I1) : At L X (d + 1) 156 3 [(0, .long y.1), (0, dV), (0, .long y.2.1), (0, dV), (0, .int y.2.2.1), (0, .long y.2.2.2), (0, dV)] [] I o := by
  refine wf_ok z_Riddles_commonDivisor hcs ?_ ?_ _ _ _ _ _ ⟨trivial, trivial, trivial, trivial, trivial, trivial, trivial, trivial⟩ trivial (unm_refl _ _) ((congrFun (e_b_Riddles_commonDivisor_3 (L := L) (X := X) y) I).trans h)
  · intro pc ls st I2 h1 h2 h3 h
    rcases mC_ok h with ⟨hb, h⟩ | ⟨_, h⟩
    · have e := Nat.eq_of_beq_eq_true hb
      subst e
      obtain ⟨hst, h⟩ := mN_ok h
      subst hst
      obtain ⟨a0, n0, h⟩ := gJ_ok h
      obtain ⟨n1, h⟩ := gD_ok h
      obtain ⟨a2, n2, h⟩ := gJ_ok h
      obtain ⟨n3, h⟩ := gD_ok h
      obtain ⟨a4, n4, h⟩ := gI_ok h
      obtain ⟨a5, n5, h⟩ := gJ_ok h
      obtain ⟨n6, h⟩ := gD_ok h
      refine at_leaf (ls2 := [(0, .long a0), (0, dV), (0, .long a2), (0, dV), (0, .int a4), (0, .long a5), (0, dV)]) h3.1 ⟨Or.inr n0, Or.inl ⟨rfl, n1⟩, Or.inr n2, Or.inl ⟨rfl, n3⟩, Or.inr n4, Or.inr n5, Or.inl ⟨rfl, n6⟩, trivial⟩ ?_
      cases h; exact qb _ _ hq
    cases h
  · intro v I2 _ h
    split at h
    · cases h; exact qr _ _ hq
    · cases h
def K_Riddles_commonDivisor_3 (j0 : Int64) (j2 : Int64) (x4 : Int32) (j5 : Int64) : M (Int64) :=
  lp (B_Riddles_commonDivisor_3) FU (j0, j2, x4, j5)
theorem s_Riddles_commonDivisor_3 {d : Nat} (hcs : AllS L X d cs_Riddles_commonDivisor) (j0 : Int64) (j2 : Int64) (x4 : Int32) (j5 : Int64) {o : Option Value × PH} {Q : (Int64) → MI → Prop} (q0 : ∀ v I, Q v I → o = (some (.long v), HH I)) (I : MI) (r : Int64) (I1 : MI) (h : K_Riddles_commonDivisor_3 j0 j2 x4 j5 I = some (r, I1)) (hq : Q r I1) : At L X (d + 1) 156 3 [(0, .long j0), (0, dV), (0, .long j2), (0, dV), (0, .int x4), (0, .long j5), (0, dV)] [] I o := by
  unfold K_Riddles_commonDivisor_3 at h
  have w0 := fun w => at_lp (body := B_Riddles_commonDivisor_3) (P := (fun (y : Int64 × Int64 × Int32 × Int64) I => At L X (d + 1) 156 3 [(0, .long y.1), (0, dV), (0, .long y.2.1), (0, dV), (0, .int y.2.2.1), (0, .long y.2.2.2), (0, dV)] [] I o)) (Q := (fun (e : Int64) I => Q e I)) w FU (j0, j2, x4, j5) I r I1 h hq
  refine w0 ?_
  intro y I r I1 h hq
  exact b_Riddles_commonDivisor_3 hcs (Q := SQ (fun (y : Int64 × Int64 × Int32 × Int64) I => At L X (d + 1) 156 3 [(0, .long y.1), (0, dV), (0, .long y.2.1), (0, dV), (0, .int y.2.2.1), (0, .long y.2.2.2), (0, dV)] [] I o) (fun (e : Int64) I => Q e I)) (fun _ _ w => w) q0 y I r I1 h hq
def K_Riddles_commonDivisor_17 (j0 : Int64) (j2 : Int64) (x4 : Int32) : M (Int64) :=
  dvJ j2 <|
  K_Riddles_commonDivisor_3 j2 (j0 - j0 / j2 * j2) (x4 + (1 : Int32)) (j0 - j0 / j2 * j2)
set_option maxRecDepth 4000 in
theorem e_s_Riddles_commonDivisor_17 (k_3 : Int64 → Int64 → Int32 → Int64 → M (Int64)) (j0 : Int64) (j2 : Int64) (x4 : Int32) : wf (β := Int64) L X q_Riddles_commonDivisor 3 cs_Riddles_commonDivisor [0, 1, 2, 3, 4, 5, 6] [3] (fun pc ls st => mC (Nat.beq pc 3) (mN st <| gJ ls 0 fun a0 => gD ls 1 <| gJ ls 2 fun a2 => gD ls 3 <| gI ls 4 fun a4 => gJ ls 5 fun a5 => gD ls 6 <| k_3 a0 a2 a4 a5) (fl)) (fun v => match v with | some (_, .long x) => rt x | _ => fl) 28 17 [(0, .long j0), (0, dV), (0, .long j2), (0, dV), (0, .int x4), (0, dV), (0, dV)] [] = (dvJ j2 <|
  k_3 j2 (j0 - j0 / j2 * j2) (x4 + (1 : Int32)) (j0 - j0 / j2 * j2)) := rfl
theorem s_Riddles_commonDivisor_17 {d : Nat} (hcs : AllS L X d cs_Riddles_commonDivisor) (j0 : Int64) (j2 : Int64) (x4 : Int32) {o : Option Value × PH} {Q : (Int64) → MI → Prop} (q0 : ∀ v I, Q v I → o = (some (.long v), HH I)) (I : MI) (r : Int64) (I1 : MI) (h : K_Riddles_commonDivisor_17 j0 j2 x4 I = some (r, I1)) (hq : Q r I1) : At L X (d + 1) 156 17 [(0, .long j0), (0, dV), (0, .long j2), (0, dV), (0, .int x4), (0, dV), (0, dV)] [] I o := by
  refine wf_ok z_Riddles_commonDivisor hcs ?_ ?_ _ _ _ _ _ ⟨trivial, trivial, trivial, trivial, trivial, trivial, trivial, trivial⟩ trivial (unm_refl _ _) ((congrFun (e_s_Riddles_commonDivisor_17 (L := L) (X := X) K_Riddles_commonDivisor_3 j0 j2 x4) I).trans h)
  · intro pc ls st I2 h1 h2 h3 h
    rcases mC_ok h with ⟨hb, h⟩ | ⟨_, h⟩
    · have e := Nat.eq_of_beq_eq_true hb
      subst e
      obtain ⟨hst, h⟩ := mN_ok h
      subst hst
      obtain ⟨a0, n0, h⟩ := gJ_ok h
      obtain ⟨n1, h⟩ := gD_ok h
      obtain ⟨a2, n2, h⟩ := gJ_ok h
      obtain ⟨n3, h⟩ := gD_ok h
      obtain ⟨a4, n4, h⟩ := gI_ok h
      obtain ⟨a5, n5, h⟩ := gJ_ok h
      obtain ⟨n6, h⟩ := gD_ok h
      refine at_leaf (ls2 := [(0, .long a0), (0, dV), (0, .long a2), (0, dV), (0, .int a4), (0, .long a5), (0, dV)]) h3.1 ⟨Or.inr n0, Or.inl ⟨rfl, n1⟩, Or.inr n2, Or.inl ⟨rfl, n3⟩, Or.inr n4, Or.inr n5, Or.inl ⟨rfl, n6⟩, trivial⟩ ?_
      exact s_Riddles_commonDivisor_3 hcs a0 a2 a4 a5 q0 _ _ _ h hq
    cases h
  · intro v I2 _ h
    split at h
    · cases h; exact q0 _ _ hq
    · cases h
def F_Riddles_commonDivisor (j0 : Int64) (j2 : Int64) : M (Int64) :=
  (if (0 : Int32) < (1000 : Int32) then
    (if (lg_cmp j2 0) = 0 then
      rt (if j0 < 1 then 1 else j0)
    else
      K_Riddles_commonDivisor_17 j0 j2 (0 : Int32))
  else
    rt (if j0 < 1 then 1 else j0))
set_option maxRecDepth 4000 in
theorem e_s_Riddles_commonDivisor_0 (k_17 : Int64 → Int64 → Int32 → M (Int64)) (j0 : Int64) (j2 : Int64) : wf (β := Int64) L X q_Riddles_commonDivisor 3 cs_Riddles_commonDivisor [4] [17] (fun pc ls st => mC (Nat.beq pc 17) (mN st <| gD ls 1 <| gD ls 3 <| gI ls 4 fun a4 => gD ls 5 <| gD ls 6 <| k_17 j0 j2 a4) (fl)) (fun v => match v with | some (_, .long x) => rt x | _ => fl) 28 0 [(0, .long j0), (0, dV), (0, .long j2), (0, dV), (0, dV), (0, dV), (0, dV)] [] = ((if (0 : Int32) < (1000 : Int32) then
    (if (lg_cmp j2 0) = 0 then
      rt (if j0 < 1 then 1 else j0)
    else
      k_17 j0 j2 (0 : Int32))
  else
    rt (if j0 < 1 then 1 else j0))) := rfl
theorem s_Riddles_commonDivisor_0 {d : Nat} (hcs : AllS L X d cs_Riddles_commonDivisor) (j0 : Int64) (j2 : Int64) {o : Option Value × PH} {Q : (Int64) → MI → Prop} (q0 : ∀ v I, Q v I → o = (some (.long v), HH I)) (I : MI) (r : Int64) (I1 : MI) (h : F_Riddles_commonDivisor j0 j2 I = some (r, I1)) (hq : Q r I1) : At L X (d + 1) 156 0 [(0, .long j0), (0, dV), (0, .long j2), (0, dV), (0, dV), (0, dV), (0, dV)] [] I o := by
  refine wf_ok z_Riddles_commonDivisor hcs ?_ ?_ _ _ _ _ _ ⟨trivial, trivial, trivial, trivial, trivial, trivial, trivial, trivial⟩ trivial (unm_refl _ _) ((congrFun (e_s_Riddles_commonDivisor_0 (L := L) (X := X) K_Riddles_commonDivisor_17 j0 j2) I).trans h)
  · intro pc ls st I2 h1 h2 h3 h
    rcases mC_ok h with ⟨hb, h⟩ | ⟨_, h⟩
    · have e := Nat.eq_of_beq_eq_true hb
      subst e
      obtain ⟨hst, h⟩ := mN_ok h
      subst hst
      obtain ⟨n1, h⟩ := gD_ok h
      obtain ⟨n3, h⟩ := gD_ok h
      obtain ⟨a4, n4, h⟩ := gI_ok h
      obtain ⟨n5, h⟩ := gD_ok h
      obtain ⟨n6, h⟩ := gD_ok h
      refine at_leaf (ls2 := [(0, .long j0), (0, dV), (0, .long j2), (0, dV), (0, .int a4), (0, dV), (0, dV)]) h3.1 ⟨Or.inr ⟨_, (h3.2 0 rfl).trans rfl⟩, Or.inl ⟨rfl, n1⟩, Or.inr ⟨_, (h3.2 2 rfl).trans rfl⟩, Or.inl ⟨rfl, n3⟩, Or.inr n4, Or.inl ⟨rfl, n5⟩, Or.inl ⟨rfl, n6⟩, trivial⟩ ?_
      exact s_Riddles_commonDivisor_17 hcs j0 j2 a4 q0 _ _ _ h hq
    cases h
  · intro v I2 _ h
    split at h
    · cases h; exact q0 _ _ hq
    · cases h
theorem w_Riddles_commonDivisor {d : Nat} (hcs : AllS L X d cs_Riddles_commonDivisor) : Snd L X (d + 1) 156 2 (W_Riddles_commonDivisor F_Riddles_commonDivisor) := by
  refine ⟨_, z_Riddles_commonDivisor, rfl, fun β args k I r hty hlen h => ?_⟩
  unfold W_Riddles_commonDivisor at h
  split at h
  · rename_i u0 a0 u1 a1
    obtain ⟨v, I1, h1, h2⟩ := bn_some h
    refine ⟨rfl, rfl, some (0, .long v), I1, trivial, ?_, h2⟩
    exact s_Riddles_commonDivisor_0 hcs a0 a1  (Q := fun w I => w = v ∧ I = I1) (fun w I q => by obtain ⟨rfl, rfl⟩ := q; rfl) I v I1 h1 ⟨rfl, rfl⟩
  · cases h
theorem S_Riddles_commonDivisor {d : Nat} (hd : 1 ≤ d) : Snd L X d 156 2 (W_Riddles_commonDivisor F_Riddles_commonDivisor) := by
  obtain ⟨e, rfl⟩ : ∃ e, d = e + 1 := ⟨d - 1, by omega⟩
  exact w_Riddles_commonDivisor trivial
set_option maxRecDepth 100000 in
theorem z_Riddles_together : pT[155]? = some (q_Riddles_together, 4, 10, 1, 6) := rfl
def W_Riddles_together (F : Int32 → Int32 → Int32 → M Int32) : CSem := fun _ args k => match args with
  | [(t0, .ref a0), (_, .int a1), (_, .int a2), (_, .int a3)] => mB (Nat.beq t0 106) <| bn (F a1 a2 a3) fun v => k (some (0, .int v))
  | _ => fl
def cs_Riddles_together (f_Riddles_commonDivisor : Int64 → Int64 → M Int64) : List (Nat × Nat × CSem) := [(156, 2, W_Riddles_commonDivisor f_Riddles_commonDivisor)]
def B_Riddles_together_9 (x1 : Int32) (x2 : Int32) (x3 : Int32) (y : Int64 × Int64 × Int32) : M ((Int64 × Int64 × Int32) ⊕ ((Int64 × Int64))) :=
  (if y.2.2 < x1 then
    rt (.inl ((y.1 * (Int32.toInt64 x2)), (y.2.1 * (Int32.toInt64 (if (0 : Int32) < (x2 - y.2.2) then (x2 - y.2.2) else (0 : Int32)))), (y.2.2 + (1 : Int32))))
  else
    rt (.inr (y.1, y.2.1)))
set_option maxRecDepth 4000 in
theorem e_b_Riddles_together_9 (f_Riddles_commonDivisor : Int64 → Int64 → M Int64) (x1 : Int32) (x2 : Int32) (x3 : Int32) (y : Int64 × Int64 × Int32) : wf (β := (Int64 × Int64 × Int32) ⊕ ((Int64 × Int64))) L X q_Riddles_together 1 (cs_Riddles_together f_Riddles_commonDivisor) [4, 5, 6, 7, 8] [9, 42] (fun pc ls st => mC (Nat.beq pc 9) (mN st <| gD ls 0 <| gJ ls 4 fun a4 => gD ls 5 <| gJ ls 6 fun a6 => gD ls 7 <| gI ls 8 fun a8 => gD ls 9 <| rt (.inl (a4, a6, a8))) (mC (Nat.beq pc 42) (mN st <| gD ls 0 <| gD ls 1 <| gD ls 2 <| gJ ls 4 fun a4 => gD ls 5 <| gJ ls 6 fun a6 => gD ls 7 <| gD ls 8 <| gD ls 9 <| rt (.inr (a4, a6))) (fl))) (fun _ => fl) 47 9 [(0, dV), (0, .int x1), (0, .int x2), (0, .int x3), (0, .long y.1), (0, dV), (0, .long y.2.1), (0, dV), (0, .int y.2.2), (0, dV)] [] = ((if y.2.2 < x1 then
    rt (.inl ((y.1 * (Int32.toInt64 x2)), (y.2.1 * (Int32.toInt64 (if (0 : Int32) < (x2 - y.2.2) then (x2 - y.2.2) else (0 : Int32)))), (y.2.2 + (1 : Int32))))
  else
    rt (.inr (y.1, y.2.1)))) := rfl
theorem b_Riddles_together_9 {d : Nat} (hcs : AllS L X d (cs_Riddles_together F_Riddles_commonDivisor)) (x1 : Int32) (x2 : Int32) (x3 : Int32) {o : Option Value × PH} {Q : ((Int64 × Int64 × Int32) ⊕ ((Int64 × Int64))) → MI → Prop} (qb : ∀ y I, Q (.inl y) I → At L X (d + 1) 155 9 [(0, dV), (0, .int x1), (0, .int x2), (0, .int x3), (0, .long y.1), (0, dV), (0, .long y.2.1), (0, dV), (0, .int y.2.2), (0, dV)] [] I o) (qe42 : ∀ y I, Q (.inr y) I → At L X (d + 1) 155 42 [(0, dV), (0, dV), (0, dV), (0, .int x3), (0, .long y.1), (0, dV), (0, .long y.2), (0, dV), (0, dV), (0, dV)] [] I o) (y : Int64 × Int64 × Int32) (I : MI) (r : (Int64 × Int64 × Int32) ⊕ ((Int64 × Int64))) (I1 : MI) (h : B_Riddles_together_9 x1 x2 x3 y I = some (r, I1)) (hq : Q r I1) : At L X (d + 1) 155 9 [(0, dV), (0, .int x1), (0, .int x2), (0, .int x3), (0, .long y.1), (0, dV), (0, .long y.2.1), (0, dV), (0, .int y.2.2), (0, dV)] [] I o := by
  refine wf_ok z_Riddles_together hcs ?_ ?_ _ _ _ _ _ ⟨trivial, trivial, trivial, trivial, trivial, trivial, trivial, trivial, trivial, trivial, trivial⟩ trivial (unm_refl _ _) ((congrFun (e_b_Riddles_together_9 (L := L) (X := X) F_Riddles_commonDivisor x1 x2 x3 y) I).trans h)
  · intro pc ls st I2 h1 h2 h3 h
    rcases mC_ok h with ⟨hb, h⟩ | ⟨_, h⟩
    · have e := Nat.eq_of_beq_eq_true hb
      subst e
      obtain ⟨hst, h⟩ := mN_ok h
      subst hst
      obtain ⟨n0, h⟩ := gD_ok h
      obtain ⟨a4, n4, h⟩ := gJ_ok h
      obtain ⟨n5, h⟩ := gD_ok h
      obtain ⟨a6, n6, h⟩ := gJ_ok h
      obtain ⟨n7, h⟩ := gD_ok h
      obtain ⟨a8, n8, h⟩ := gI_ok h
      obtain ⟨n9, h⟩ := gD_ok h
      refine at_leaf (ls2 := [(0, dV), (0, .int x1), (0, .int x2), (0, .int x3), (0, .long a4), (0, dV), (0, .long a6), (0, dV), (0, .int a8), (0, dV)]) h3.1 ⟨Or.inl ⟨rfl, n0⟩, Or.inr ⟨_, (h3.2 1 rfl).trans rfl⟩, Or.inr ⟨_, (h3.2 2 rfl).trans rfl⟩, Or.inr ⟨_, (h3.2 3 rfl).trans rfl⟩, Or.inr n4, Or.inl ⟨rfl, n5⟩, Or.inr n6, Or.inl ⟨rfl, n7⟩, Or.inr n8, Or.inl ⟨rfl, n9⟩, trivial⟩ ?_
      cases h; exact qb _ _ hq
    rcases mC_ok h with ⟨hb, h⟩ | ⟨_, h⟩
    · have e := Nat.eq_of_beq_eq_true hb
      subst e
      obtain ⟨hst, h⟩ := mN_ok h
      subst hst
      obtain ⟨n0, h⟩ := gD_ok h
      obtain ⟨n1, h⟩ := gD_ok h
      obtain ⟨n2, h⟩ := gD_ok h
      obtain ⟨a4, n4, h⟩ := gJ_ok h
      obtain ⟨n5, h⟩ := gD_ok h
      obtain ⟨a6, n6, h⟩ := gJ_ok h
      obtain ⟨n7, h⟩ := gD_ok h
      obtain ⟨n8, h⟩ := gD_ok h
      obtain ⟨n9, h⟩ := gD_ok h
      refine at_leaf (ls2 := [(0, dV), (0, dV), (0, dV), (0, .int x3), (0, .long a4), (0, dV), (0, .long a6), (0, dV), (0, dV), (0, dV)]) h3.1 ⟨Or.inl ⟨rfl, n0⟩, Or.inl ⟨rfl, n1⟩, Or.inl ⟨rfl, n2⟩, Or.inr ⟨_, (h3.2 3 rfl).trans rfl⟩, Or.inr n4, Or.inl ⟨rfl, n5⟩, Or.inr n6, Or.inl ⟨rfl, n7⟩, Or.inl ⟨rfl, n8⟩, Or.inl ⟨rfl, n9⟩, trivial⟩ ?_
      cases h; exact qe42 _ _ hq
    cases h
  · intro v I2 _ h
    cases h
def K_Riddles_together_42 (x3 : Int32) (j4 : Int64) (j6 : Int64) : M (Int32) :=
  bn (F_Riddles_commonDivisor j4 (j4 - j6)) fun v1 =>
  (if x3 = 0 then
    dvJ v1 <|
    rt (Int64.toInt32 ((j4 - j6) / v1))
  else
    dvJ v1 <|
    rt (Int64.toInt32 (j4 / v1)))
set_option maxRecDepth 4000 in
theorem e_s_Riddles_together_42 (f_Riddles_commonDivisor : Int64 → Int64 → M Int64) (x3 : Int32) (j4 : Int64) (j6 : Int64) : wf (β := Int32) L X q_Riddles_together 1 (cs_Riddles_together f_Riddles_commonDivisor) [8, 9] [9, 42] (fun _ _ _ => fl) (fun v => match v with | some (_, .int x) => rt x | _ => fl) 47 42 [(0, dV), (0, dV), (0, dV), (0, .int x3), (0, .long j4), (0, dV), (0, .long j6), (0, dV), (0, dV), (0, dV)] [] = (bn (f_Riddles_commonDivisor j4 (j4 - j6)) fun v1 =>
  (if x3 = 0 then
    dvJ v1 <|
    rt (Int64.toInt32 ((j4 - j6) / v1))
  else
    dvJ v1 <|
    rt (Int64.toInt32 (j4 / v1)))) := rfl
theorem s_Riddles_together_42 {d : Nat} (hcs : AllS L X d (cs_Riddles_together F_Riddles_commonDivisor)) (x3 : Int32) (j4 : Int64) (j6 : Int64) {o : Option Value × PH} {Q : (Int32) → MI → Prop} (q0 : ∀ v I, Q v I → o = (some (.int v), HH I)) (I : MI) (r : Int32) (I1 : MI) (h : K_Riddles_together_42 x3 j4 j6 I = some (r, I1)) (hq : Q r I1) : At L X (d + 1) 155 42 [(0, dV), (0, dV), (0, dV), (0, .int x3), (0, .long j4), (0, dV), (0, .long j6), (0, dV), (0, dV), (0, dV)] [] I o := by
  refine wf_ok z_Riddles_together hcs ?_ ?_ _ _ _ _ _ ⟨trivial, trivial, trivial, trivial, trivial, trivial, trivial, trivial, trivial, trivial, trivial⟩ trivial (unm_refl _ _) ((congrFun (e_s_Riddles_together_42 (L := L) (X := X) F_Riddles_commonDivisor x3 j4 j6) I).trans h)
  · intro pc ls st I2 h1 h2 h3 h
    cases h
  · intro v I2 _ h
    split at h
    · cases h; exact q0 _ _ hq
    · cases h
def K_Riddles_together_9 (x1 : Int32) (x2 : Int32) (x3 : Int32) (j4 : Int64) (j6 : Int64) (x8 : Int32) : M (Int32) :=
  bn (lp (B_Riddles_together_9 x1 x2 x3) FU (j4, j6, x8)) fun e => K_Riddles_together_42 x3 e.1 e.2
theorem s_Riddles_together_9 {d : Nat} (hcs : AllS L X d (cs_Riddles_together F_Riddles_commonDivisor)) (x1 : Int32) (x2 : Int32) (x3 : Int32) (j4 : Int64) (j6 : Int64) (x8 : Int32) {o : Option Value × PH} {Q : (Int32) → MI → Prop} (q0 : ∀ v I, Q v I → o = (some (.int v), HH I)) (I : MI) (r : Int32) (I1 : MI) (h : K_Riddles_together_9 x1 x2 x3 j4 j6 x8 I = some (r, I1)) (hq : Q r I1) : At L X (d + 1) 155 9 [(0, dV), (0, .int x1), (0, .int x2), (0, .int x3), (0, .long j4), (0, dV), (0, .long j6), (0, dV), (0, .int x8), (0, dV)] [] I o := by
  unfold K_Riddles_together_9 at h
  obtain ⟨e, I2, h1, h2⟩ := bn_some h
  have w0 := fun w => at_lp (body := B_Riddles_together_9 x1 x2 x3) (P := (fun (y : Int64 × Int64 × Int32) I => At L X (d + 1) 155 9 [(0, dV), (0, .int x1), (0, .int x2), (0, .int x3), (0, .long y.1), (0, dV), (0, .long y.2.1), (0, dV), (0, .int y.2.2), (0, dV)] [] I o)) (Q := (fun (e : (Int64 × Int64)) I => (K_Riddles_together_42 x3 e.1 e.2) I = some (r, I1))) w FU (j4, j6, x8) I e I2 h1 h2
  refine w0 ?_
  intro y I r2 I3 h hq2
  exact b_Riddles_together_9 hcs x1 x2 x3 (Q := SQ (fun (y : Int64 × Int64 × Int32) I => At L X (d + 1) 155 9 [(0, dV), (0, .int x1), (0, .int x2), (0, .int x3), (0, .long y.1), (0, dV), (0, .long y.2.1), (0, dV), (0, .int y.2.2), (0, dV)] [] I o) (fun (e : (Int64 × Int64)) I => (K_Riddles_together_42 x3 e.1 e.2) I = some (r, I1))) (fun _ _ w => w) (fun y I w => s_Riddles_together_42 hcs x3 y.1 y.2 q0 _ _ _ w hq) y I r2 I3 h hq2
def F_Riddles_together (x1 : Int32) (x2 : Int32) (x3 : Int32) : M (Int32) :=
  K_Riddles_together_9 x1 x2 x3 1 1 (0 : Int32)
set_option maxRecDepth 4000 in
theorem e_s_Riddles_together_0 (f_Riddles_commonDivisor : Int64 → Int64 → M Int64) (k_9 : Int32 → Int32 → Int32 → Int64 → Int64 → Int32 → M (Int32)) (x1 : Int32) (x2 : Int32) (x3 : Int32) : wf (β := Int32) L X q_Riddles_together 1 (cs_Riddles_together f_Riddles_commonDivisor) [4, 5, 6, 7, 8] [9, 42] (fun pc ls st => mC (Nat.beq pc 9) (mN st <| gD ls 0 <| gJ ls 4 fun a4 => gD ls 5 <| gJ ls 6 fun a6 => gD ls 7 <| gI ls 8 fun a8 => gD ls 9 <| k_9 x1 x2 x3 a4 a6 a8) (fl)) (fun v => match v with | some (_, .int x) => rt x | _ => fl) 47 0 [(106, .ref 195), (0, .int x1), (0, .int x2), (0, .int x3), (0, dV), (0, dV), (0, dV), (0, dV), (0, dV), (0, dV)] [] = (k_9 x1 x2 x3 1 1 (0 : Int32)) := rfl
theorem s_Riddles_together_0 {d : Nat} (hcs : AllS L X d (cs_Riddles_together F_Riddles_commonDivisor)) (x1 : Int32) (x2 : Int32) (x3 : Int32) {o : Option Value × PH} {Q : (Int32) → MI → Prop} (q0 : ∀ v I, Q v I → o = (some (.int v), HH I)) (I : MI) (r : Int32) (I1 : MI) (h : F_Riddles_together x1 x2 x3 I = some (r, I1)) (hq : Q r I1) : At L X (d + 1) 155 0 [(106, .ref 195), (0, .int x1), (0, .int x2), (0, .int x3), (0, dV), (0, dV), (0, dV), (0, dV), (0, dV), (0, dV)] [] I o := by
  refine wf_ok z_Riddles_together hcs ?_ ?_ _ _ _ _ _ ⟨rfl, trivial, trivial, trivial, trivial, trivial, trivial, trivial, trivial, trivial, trivial⟩ trivial (unm_refl _ _) ((congrFun (e_s_Riddles_together_0 (L := L) (X := X) F_Riddles_commonDivisor K_Riddles_together_9 x1 x2 x3) I).trans h)
  · intro pc ls st I2 h1 h2 h3 h
    rcases mC_ok h with ⟨hb, h⟩ | ⟨_, h⟩
    · have e := Nat.eq_of_beq_eq_true hb
      subst e
      obtain ⟨hst, h⟩ := mN_ok h
      subst hst
      obtain ⟨n0, h⟩ := gD_ok h
      obtain ⟨a4, n4, h⟩ := gJ_ok h
      obtain ⟨n5, h⟩ := gD_ok h
      obtain ⟨a6, n6, h⟩ := gJ_ok h
      obtain ⟨n7, h⟩ := gD_ok h
      obtain ⟨a8, n8, h⟩ := gI_ok h
      obtain ⟨n9, h⟩ := gD_ok h
      refine at_leaf (ls2 := [(0, dV), (0, .int x1), (0, .int x2), (0, .int x3), (0, .long a4), (0, dV), (0, .long a6), (0, dV), (0, .int a8), (0, dV)]) h3.1 ⟨Or.inl ⟨rfl, n0⟩, Or.inr ⟨_, (h3.2 1 rfl).trans rfl⟩, Or.inr ⟨_, (h3.2 2 rfl).trans rfl⟩, Or.inr ⟨_, (h3.2 3 rfl).trans rfl⟩, Or.inr n4, Or.inl ⟨rfl, n5⟩, Or.inr n6, Or.inl ⟨rfl, n7⟩, Or.inr n8, Or.inl ⟨rfl, n9⟩, trivial⟩ ?_
      exact s_Riddles_together_9 hcs x1 x2 x3 a4 a6 a8 q0 _ _ _ h hq
    cases h
  · intro v I2 _ h
    split at h
    · cases h; exact q0 _ _ hq
    · cases h
theorem w_Riddles_together {d : Nat} (hcs : AllS L X d (cs_Riddles_together F_Riddles_commonDivisor)) : Snd L X (d + 1) 155 4 (W_Riddles_together F_Riddles_together) := by
  refine ⟨_, z_Riddles_together, rfl, fun β args k I r hty hlen h => ?_⟩
  unfold W_Riddles_together at h
  split at h
  · rename_i t0 a0 u1 a1 u2 a2 u3 a3
    obtain ⟨hb0, h⟩ := mB_ok h
    have e0 := Nat.eq_of_beq_eq_true hb0
    have g0 : okB 106 a0 = true := e0 ▸ hty.1
    have e20 := one_106 g0
    subst e20
    obtain ⟨v, I1, h1, h2⟩ := bn_some h
    refine ⟨gf_obj (c := 6) (by decide) g0, rfl, some (0, .int v), I1, trivial, ?_, h2⟩
    exact s_Riddles_together_0 hcs a1 a2 a3  (Q := fun w I => w = v ∧ I = I1) (fun w I q => by obtain ⟨rfl, rfl⟩ := q; rfl) I v I1 h1 ⟨rfl, rfl⟩
  · cases h
theorem S_Riddles_together {d : Nat} (hd : 2 ≤ d) : Snd L X d 155 4 (W_Riddles_together F_Riddles_together) := by
  obtain ⟨e, rfl⟩ : ∃ e, d = e + 1 := ⟨d - 1, by omega⟩
  exact w_Riddles_together ⟨S_Riddles_commonDivisor (by omega), trivial⟩
set_option maxRecDepth 100000 in
theorem z_A_birthdays : pT[154]? = some (q_A_birthdays, 4, 4, 1, 11) := rfl
def W_A_birthdays (F : Int32 → Int32 → Int32 → M Int32) : CSem := fun _ args k => match args with
  | [(t0, .ref a0), (_, .int a1), (_, .int a2), (_, .int a3)] => mB (Nat.beq t0 111) <| bn (F a1 a2 a3) fun v => k (some (0, .int v))
  | _ => fl
def cs_A_birthdays (f_A_within : Int32 → Int32 → Int32 → M Int32) (f_Riddles_together : Int32 → Int32 → Int32 → M Int32) : List (Nat × Nat × CSem) := [(18, 3, W_A_within f_A_within), (155, 4, W_Riddles_together f_Riddles_together)]
def F_A_birthdays (x1 : Int32) (x2 : Int32) (x3 : Int32) : M (Int32) :=
  bn (F_A_within x1 (1 : Int32) (8 : Int32)) fun v1 =>
  (if v1 = 0 then
    rt (-1 : Int32)
  else
    bn (F_A_within x2 (1 : Int32) (20 : Int32)) fun v2 =>
    (if v2 = 0 then
      rt (-1 : Int32)
    else
      bn (F_A_within x3 (0 : Int32) (1 : Int32)) fun v3 =>
      (if v3 = 0 then
        rt (-1 : Int32)
      else
        bn (F_Riddles_together x1 x2 x3) fun v4 =>
        rt v4)))
set_option maxRecDepth 4000 in
theorem e_s_A_birthdays_0 (f_A_within : Int32 → Int32 → Int32 → M Int32) (f_Riddles_together : Int32 → Int32 → Int32 → M Int32) (x1 : Int32) (x2 : Int32) (x3 : Int32) : wf (β := Int32) L X q_A_birthdays 1 (cs_A_birthdays f_A_within f_Riddles_together) [] [] (fun _ _ _ => fl) (fun v => match v with | some (_, .int x) => rt x | _ => fl) 29 0 [(111, .ref 0), (0, .int x1), (0, .int x2), (0, .int x3)] [] = (bn (f_A_within x1 (1 : Int32) (8 : Int32)) fun v1 =>
  (if v1 = 0 then
    rt (-1 : Int32)
  else
    bn (f_A_within x2 (1 : Int32) (20 : Int32)) fun v2 =>
    (if v2 = 0 then
      rt (-1 : Int32)
    else
      bn (f_A_within x3 (0 : Int32) (1 : Int32)) fun v3 =>
      (if v3 = 0 then
        rt (-1 : Int32)
      else
        bn (f_Riddles_together x1 x2 x3) fun v4 =>
        rt v4)))) := rfl
theorem s_A_birthdays_0 {d : Nat} (hcs : AllS L X d (cs_A_birthdays F_A_within F_Riddles_together)) (x1 : Int32) (x2 : Int32) (x3 : Int32) {o : Option Value × PH} {Q : (Int32) → MI → Prop} (q0 : ∀ v I, Q v I → o = (some (.int v), HH I)) (I : MI) (r : Int32) (I1 : MI) (h : F_A_birthdays x1 x2 x3 I = some (r, I1)) (hq : Q r I1) : At L X (d + 1) 154 0 [(111, .ref 0), (0, .int x1), (0, .int x2), (0, .int x3)] [] I o := by
  refine wf_ok z_A_birthdays hcs ?_ ?_ _ _ _ _ _ ⟨rfl, trivial, trivial, trivial, trivial⟩ trivial (unm_refl _ _) ((congrFun (e_s_A_birthdays_0 (L := L) (X := X) F_A_within F_Riddles_together x1 x2 x3) I).trans h)
  · intro pc ls st I2 h1 h2 h3 h
    cases h
  · intro v I2 _ h
    split at h
    · cases h; exact q0 _ _ hq
    · cases h
theorem w_A_birthdays {d : Nat} (hcs : AllS L X d (cs_A_birthdays F_A_within F_Riddles_together)) : Snd L X (d + 1) 154 4 (W_A_birthdays F_A_birthdays) := by
  refine ⟨_, z_A_birthdays, rfl, fun β args k I r hty hlen h => ?_⟩
  unfold W_A_birthdays at h
  split at h
  · rename_i t0 a0 u1 a1 u2 a2 u3 a3
    obtain ⟨hb0, h⟩ := mB_ok h
    have e0 := Nat.eq_of_beq_eq_true hb0
    have g0 : okB 111 a0 = true := e0 ▸ hty.1
    have e20 := one_111 g0
    subst e20
    obtain ⟨v, I1, h1, h2⟩ := bn_some h
    refine ⟨gf_obj (c := 11) (by decide) g0, rfl, some (0, .int v), I1, trivial, ?_, h2⟩
    exact s_A_birthdays_0 hcs a1 a2 a3  (Q := fun w I => w = v ∧ I = I1) (fun w I q => by obtain ⟨rfl, rfl⟩ := q; rfl) I v I1 h1 ⟨rfl, rfl⟩
  · cases h
theorem S_A_birthdays {d : Nat} (hd : 3 ≤ d) : Snd L X d 154 4 (W_A_birthdays F_A_birthdays) := by
  obtain ⟨e, rfl⟩ : ∃ e, d = e + 1 := ⟨d - 1, by omega⟩
  exact w_A_birthdays ⟨S_A_within (by omega), S_Riddles_together (by omega), trivial⟩
set_option maxRecDepth 100000 in
theorem z_Book_cell : pT[117]? = some (q_Book_cell, 4, 5, 1, 0) := rfl
def W_Book_cell (F : Nat → Nat → Int32 → Int32 → M Int32) : CSem := fun _ args k => match args with
  | [(t0, .ref a0), (t1, .ref a1), (_, .int a2), (_, .int a3)] => mB (Nat.beq t0 100) <| mB (Nat.beq t1 110) <| bn (F a0 a1 a2 a3) fun v => k (some (0, .int v))
  | _ => fl
def cs_Book_cell : List (Nat × Nat × CSem) := []
def K_Book_cell_32 (r0 : Nat) (x2 : Int32) (x3 : Int32) : M (Int32) :=
  (if (0 : Int32) = 0 then
    rt (-1 : Int32)
  else
    bn (ld 750 (r0 + 1) ((x2 * (5 : Int32)) + x3)) fun v1 =>
    rt v1)
set_option maxRecDepth 4000 in
theorem e_s_Book_cell_32 (r0 : Nat) (x2 : Int32) (x3 : Int32) : wf (β := Int32) L X q_Book_cell 1 cs_Book_cell [4] [32] (fun _ _ _ => fl) (fun v => match v with | some (_, .int x) => rt x | _ => fl) 36 32 [(100, .ref r0), (0, dV), (0, .int x2), (0, .int x3), (0, dV)] [] = ((if (0 : Int32) = 0 then
    rt (-1 : Int32)
  else
    bn (ld 750 (r0 + 1) ((x2 * (5 : Int32)) + x3)) fun v1 =>
    rt v1)) := rfl
theorem s_Book_cell_32 {d : Nat} (hcs : AllS L X d cs_Book_cell) (r0 : Nat) (x2 : Int32) (x3 : Int32) (t0 : okB 100 r0 = true) {o : Option Value × PH} {Q : (Int32) → MI → Prop} (q0 : ∀ v I, Q v I → o = (some (.int v), HH I)) (I : MI) (r : Int32) (I1 : MI) (h : K_Book_cell_32 r0 x2 x3 I = some (r, I1)) (hq : Q r I1) : At L X (d + 1) 117 32 [(100, .ref r0), (0, dV), (0, .int x2), (0, .int x3), (0, dV)] [] I o := by
  refine wf_ok z_Book_cell hcs ?_ ?_ _ _ _ _ _ ⟨t0, trivial, trivial, trivial, trivial, trivial⟩ trivial (unm_refl _ _) ((congrFun (e_s_Book_cell_32 (L := L) (X := X) r0 x2 x3) I).trans h)
  · intro pc ls st I2 h1 h2 h3 h
    cases h
  · intro v I2 _ h
    split at h
    · cases h; exact q0 _ _ hq
    · cases h
def F_Book_cell (r0 : Nat) (r1 : Nat) (x2 : Int32) (x3 : Int32) : M (Int32) :=
  (if x2 < 0 then
    K_Book_cell_32 r0 x2 x3
  else
    bn (rd r1 6) fun v1 =>
    (if x2 < v1 then
      (if x2 < (150 : Int32) then
        (if x3 < 0 then
          K_Book_cell_32 r0 x2 x3
        else
          (if x3 < (5 : Int32) then
            (if (1 : Int32) = 0 then
              rt (-1 : Int32)
            else
              bn (ld 750 (r0 + 1) ((x2 * (5 : Int32)) + x3)) fun v2 =>
              rt v2)
          else
            K_Book_cell_32 r0 x2 x3))
      else
        K_Book_cell_32 r0 x2 x3)
    else
      K_Book_cell_32 r0 x2 x3))
set_option maxRecDepth 4000 in
theorem e_s_Book_cell_0 (k_32 : Nat → Int32 → Int32 → M (Int32)) (r0 : Nat) (r1 : Nat) (x2 : Int32) (x3 : Int32) : wf (β := Int32) L X q_Book_cell 1 cs_Book_cell [4] [32] (fun pc ls st => mC (Nat.beq pc 32) (mN st <| gD ls 1 <| gD ls 4 <| k_32 r0 x2 x3) (fl)) (fun v => match v with | some (_, .int x) => rt x | _ => fl) 36 0 [(100, .ref r0), (110, .ref r1), (0, .int x2), (0, .int x3), (0, dV)] [] = ((if x2 < 0 then
    k_32 r0 x2 x3
  else
    bn (rd r1 6) fun v1 =>
    (if x2 < v1 then
      (if x2 < (150 : Int32) then
        (if x3 < 0 then
          k_32 r0 x2 x3
        else
          (if x3 < (5 : Int32) then
            (if (1 : Int32) = 0 then
              rt (-1 : Int32)
            else
              bn (ld 750 (r0 + 1) ((x2 * (5 : Int32)) + x3)) fun v2 =>
              rt v2)
          else
            k_32 r0 x2 x3))
      else
        k_32 r0 x2 x3)
    else
      k_32 r0 x2 x3))) := rfl
theorem s_Book_cell_0 {d : Nat} (hcs : AllS L X d cs_Book_cell) (r0 : Nat) (r1 : Nat) (x2 : Int32) (x3 : Int32) (t0 : okB 100 r0 = true) (t1 : okB 110 r1 = true) {o : Option Value × PH} {Q : (Int32) → MI → Prop} (q0 : ∀ v I, Q v I → o = (some (.int v), HH I)) (I : MI) (r : Int32) (I1 : MI) (h : F_Book_cell r0 r1 x2 x3 I = some (r, I1)) (hq : Q r I1) : At L X (d + 1) 117 0 [(100, .ref r0), (110, .ref r1), (0, .int x2), (0, .int x3), (0, dV)] [] I o := by
  refine wf_ok z_Book_cell hcs ?_ ?_ _ _ _ _ _ ⟨t0, t1, trivial, trivial, trivial, trivial⟩ trivial (unm_refl _ _) ((congrFun (e_s_Book_cell_0 (L := L) (X := X) K_Book_cell_32 r0 r1 x2 x3) I).trans h)
  · intro pc ls st I2 h1 h2 h3 h
    rcases mC_ok h with ⟨hb, h⟩ | ⟨_, h⟩
    · have e := Nat.eq_of_beq_eq_true hb
      subst e
      obtain ⟨hst, h⟩ := mN_ok h
      subst hst
      obtain ⟨n1, h⟩ := gD_ok h
      obtain ⟨n4, h⟩ := gD_ok h
      refine at_leaf (ls2 := [(100, .ref r0), (0, dV), (0, .int x2), (0, .int x3), (0, dV)]) h3.1 ⟨Or.inr ⟨_, (h3.2 0 rfl).trans rfl⟩, Or.inl ⟨rfl, n1⟩, Or.inr ⟨_, (h3.2 2 rfl).trans rfl⟩, Or.inr ⟨_, (h3.2 3 rfl).trans rfl⟩, Or.inl ⟨rfl, n4⟩, trivial⟩ ?_
      exact s_Book_cell_32 hcs r0 x2 x3 t0 q0 _ _ _ h hq
    cases h
  · intro v I2 _ h
    split at h
    · cases h; exact q0 _ _ hq
    · cases h
theorem w_Book_cell {d : Nat} (hcs : AllS L X d cs_Book_cell) : Snd L X (d + 1) 117 4 (W_Book_cell F_Book_cell) := by
  refine ⟨_, z_Book_cell, rfl, fun β args k I r hty hlen h => ?_⟩
  unfold W_Book_cell at h
  split at h
  · rename_i t0 a0 t1 a1 u2 a2 u3 a3
    obtain ⟨hb0, h⟩ := mB_ok h
    have e0 := Nat.eq_of_beq_eq_true hb0
    have g0 : okB 100 a0 = true := e0 ▸ hty.1
    obtain ⟨hb1, h⟩ := mB_ok h
    have e1 := Nat.eq_of_beq_eq_true hb1
    have g1 : okB 110 a1 = true := e1 ▸ hty.2.1
    obtain ⟨v, I1, h1, h2⟩ := bn_some h
    refine ⟨gf_obj (c := 0) (by decide) g0, rfl, some (0, .int v), I1, trivial, ?_, h2⟩
    exact s_Book_cell_0 hcs a0 a1 a2 a3 g0 g1 (Q := fun w I => w = v ∧ I = I1) (fun w I q => by obtain ⟨rfl, rfl⟩ := q; rfl) I v I1 h1 ⟨rfl, rfl⟩
  · cases h
theorem S_Book_cell {d : Nat} (hd : 1 ≤ d) : Snd L X d 117 4 (W_Book_cell F_Book_cell) := by
  obtain ⟨e, rfl⟩ : ∃ e, d = e + 1 := ⟨d - 1, by omega⟩
  exact w_Book_cell trivial
set_option maxRecDepth 100000 in
theorem z_A_book : pT[116]? = some (q_A_book, 3, 3, 1, 11) := rfl
def W_A_book (F : Int32 → Int32 → M Int32) : CSem := fun _ args k => match args with
  | [(t0, .ref a0), (_, .int a1), (_, .int a2)] => mB (Nat.beq t0 111) <| bn (F a1 a2) fun v => k (some (0, .int v))
  | _ => fl
def cs_A_book (f_Book_cell : Nat → Nat → Int32 → Int32 → M Int32) : List (Nat × Nat × CSem) := [(117, 4, W_Book_cell f_Book_cell)]
def F_A_book (x1 : Int32) (x2 : Int32) : M (Int32) :=
  bn (F_Book_cell 13 2 x1 x2) fun v1 =>
  rt v1
set_option maxRecDepth 4000 in
theorem e_s_A_book_0 (f_Book_cell : Nat → Nat → Int32 → Int32 → M Int32) (x1 : Int32) (x2 : Int32) : wf (β := Int32) L X q_A_book 1 (cs_A_book f_Book_cell) [] [] (fun _ _ _ => fl) (fun v => match v with | some (_, .int x) => rt x | _ => fl) 15 0 [(111, .ref 0), (0, .int x1), (0, .int x2)] [] = (bn (f_Book_cell 13 2 x1 x2) fun v1 =>
  rt v1) := rfl
theorem s_A_book_0 {d : Nat} (hcs : AllS L X d (cs_A_book F_Book_cell)) (x1 : Int32) (x2 : Int32) {o : Option Value × PH} {Q : (Int32) → MI → Prop} (q0 : ∀ v I, Q v I → o = (some (.int v), HH I)) (I : MI) (r : Int32) (I1 : MI) (h : F_A_book x1 x2 I = some (r, I1)) (hq : Q r I1) : At L X (d + 1) 116 0 [(111, .ref 0), (0, .int x1), (0, .int x2)] [] I o := by
  refine wf_ok z_A_book hcs ?_ ?_ _ _ _ _ _ ⟨rfl, trivial, trivial, trivial⟩ trivial (unm_refl _ _) ((congrFun (e_s_A_book_0 (L := L) (X := X) F_Book_cell x1 x2) I).trans h)
  · intro pc ls st I2 h1 h2 h3 h
    cases h
  · intro v I2 _ h
    split at h
    · cases h; exact q0 _ _ hq
    · cases h
theorem w_A_book {d : Nat} (hcs : AllS L X d (cs_A_book F_Book_cell)) : Snd L X (d + 1) 116 3 (W_A_book F_A_book) := by
  refine ⟨_, z_A_book, rfl, fun β args k I r hty hlen h => ?_⟩
  unfold W_A_book at h
  split at h
  · rename_i t0 a0 u1 a1 u2 a2
    obtain ⟨hb0, h⟩ := mB_ok h
    have e0 := Nat.eq_of_beq_eq_true hb0
    have g0 : okB 111 a0 = true := e0 ▸ hty.1
    have e20 := one_111 g0
    subst e20
    obtain ⟨v, I1, h1, h2⟩ := bn_some h
    refine ⟨gf_obj (c := 11) (by decide) g0, rfl, some (0, .int v), I1, trivial, ?_, h2⟩
    exact s_A_book_0 hcs a1 a2  (Q := fun w I => w = v ∧ I = I1) (fun w I q => by obtain ⟨rfl, rfl⟩ := q; rfl) I v I1 h1 ⟨rfl, rfl⟩
  · cases h
theorem S_A_book {d : Nat} (hd : 2 ≤ d) : Snd L X d 116 3 (W_A_book F_A_book) := by
  obtain ⟨e, rfl⟩ : ∃ e, d = e + 1 := ⟨d - 1, by omega⟩
  exact w_A_book ⟨S_Book_cell (by omega), trivial⟩
set_option maxRecDepth 100000 in
theorem z_A_boot : pT[162]? = some (q_A_boot, 2, 2, 1, 11) := rfl
def W_A_boot (F : Int32 → M Int32) : CSem := fun _ args k => match args with
  | [(t0, .ref a0), (_, .int a1)] => mB (Nat.beq t0 111) <| bn (F a1) fun v => k (some (0, .int v))
  | _ => fl
def cs_A_boot (f_A_within : Int32 → Int32 → Int32 → M Int32) (f_Table_put : Nat → Int32 → Int32 → Int32 → M Int32) (f_Table_wipe : Nat → M Int32) : List (Nat × Nat × CSem) := [(18, 3, W_A_within f_A_within), (106, 4, W_Table_put f_Table_put), (77, 1, W_Table_wipe f_Table_wipe)]
def F_A_boot (x1 : Int32) : M (Int32) :=
  (if x1 = (-1 : Int32) then
    bn (F_Table_wipe 39) fun v3 =>
    rt v3
  else
    bn (F_A_within x1 (30 : Int32) (50 : Int32)) fun v1 =>
    (if v1 = 0 then
      rt (-1 : Int32)
    else
      bn (F_Table_put 39 x1 (0 : Int32) (0 : Int32)) fun v2 =>
      rt v2))
set_option maxRecDepth 4000 in
theorem e_s_A_boot_0 (f_A_within : Int32 → Int32 → Int32 → M Int32) (f_Table_put : Nat → Int32 → Int32 → Int32 → M Int32) (f_Table_wipe : Nat → M Int32) (x1 : Int32) : wf (β := Int32) L X q_A_boot 1 (cs_A_boot f_A_within f_Table_put f_Table_wipe) [] [] (fun _ _ _ => fl) (fun v => match v with | some (_, .int x) => rt x | _ => fl) 28 0 [(111, .ref 0), (0, .int x1)] [] = ((if x1 = (-1 : Int32) then
    bn (f_Table_wipe 39) fun v3 =>
    rt v3
  else
    bn (f_A_within x1 (30 : Int32) (50 : Int32)) fun v1 =>
    (if v1 = 0 then
      rt (-1 : Int32)
    else
      bn (f_Table_put 39 x1 (0 : Int32) (0 : Int32)) fun v2 =>
      rt v2))) := rfl
theorem s_A_boot_0 {d : Nat} (hcs : AllS L X d (cs_A_boot F_A_within F_Table_put F_Table_wipe)) (x1 : Int32) {o : Option Value × PH} {Q : (Int32) → MI → Prop} (q0 : ∀ v I, Q v I → o = (some (.int v), HH I)) (I : MI) (r : Int32) (I1 : MI) (h : F_A_boot x1 I = some (r, I1)) (hq : Q r I1) : At L X (d + 1) 162 0 [(111, .ref 0), (0, .int x1)] [] I o := by
  refine wf_ok z_A_boot hcs ?_ ?_ _ _ _ _ _ ⟨rfl, trivial, trivial⟩ trivial (unm_refl _ _) ((congrFun (e_s_A_boot_0 (L := L) (X := X) F_A_within F_Table_put F_Table_wipe x1) I).trans h)
  · intro pc ls st I2 h1 h2 h3 h
    cases h
  · intro v I2 _ h
    split at h
    · cases h; exact q0 _ _ hq
    · cases h
theorem w_A_boot {d : Nat} (hcs : AllS L X d (cs_A_boot F_A_within F_Table_put F_Table_wipe)) : Snd L X (d + 1) 162 2 (W_A_boot F_A_boot) := by
  refine ⟨_, z_A_boot, rfl, fun β args k I r hty hlen h => ?_⟩
  unfold W_A_boot at h
  split at h
  · rename_i t0 a0 u1 a1
    obtain ⟨hb0, h⟩ := mB_ok h
    have e0 := Nat.eq_of_beq_eq_true hb0
    have g0 : okB 111 a0 = true := e0 ▸ hty.1
    have e20 := one_111 g0
    subst e20
    obtain ⟨v, I1, h1, h2⟩ := bn_some h
    refine ⟨gf_obj (c := 11) (by decide) g0, rfl, some (0, .int v), I1, trivial, ?_, h2⟩
    exact s_A_boot_0 hcs a1  (Q := fun w I => w = v ∧ I = I1) (fun w I q => by obtain ⟨rfl, rfl⟩ := q; rfl) I v I1 h1 ⟨rfl, rfl⟩
  · cases h
theorem S_A_boot {d : Nat} (hd : 4 ≤ d) : Snd L X d 162 2 (W_A_boot F_A_boot) := by
  obtain ⟨e, rfl⟩ : ∃ e, d = e + 1 := ⟨d - 1, by omega⟩
  exact w_A_boot ⟨S_A_within (by omega), S_Table_put (by omega), S_Table_wipe (by omega), trivial⟩
set_option maxRecDepth 100000 in
theorem z_A_box : pT[170]? = some (q_A_box, 2, 2, 1, 11) := rfl
def W_A_box (F : Int32 → M Int32) : CSem := fun _ args k => match args with
  | [(t0, .ref a0), (_, .int a1)] => mB (Nat.beq t0 111) <| bn (F a1) fun v => k (some (0, .int v))
  | _ => fl
def cs_A_box (f_A_within : Int32 → Int32 → Int32 → M Int32) (f_Table_put : Nat → Int32 → Int32 → Int32 → M Int32) (f_Table_wipe : Nat → M Int32) : List (Nat × Nat × CSem) := [(18, 3, W_A_within f_A_within), (106, 4, W_Table_put f_Table_put), (77, 1, W_Table_wipe f_Table_wipe)]
def F_A_box (x1 : Int32) : M (Int32) :=
  (if x1 = (-1 : Int32) then
    bn (F_Table_wipe 43) fun v3 =>
    rt v3
  else
    bn (F_A_within x1 (0 : Int32) (25 : Int32)) fun v1 =>
    (if v1 = 0 then
      rt (-1 : Int32)
    else
      bn (F_Table_put 43 x1 (0 : Int32) (0 : Int32)) fun v2 =>
      rt v2))
set_option maxRecDepth 4000 in
theorem e_s_A_box_0 (f_A_within : Int32 → Int32 → Int32 → M Int32) (f_Table_put : Nat → Int32 → Int32 → Int32 → M Int32) (f_Table_wipe : Nat → M Int32) (x1 : Int32) : wf (β := Int32) L X q_A_box 1 (cs_A_box f_A_within f_Table_put f_Table_wipe) [] [] (fun _ _ _ => fl) (fun v => match v with | some (_, .int x) => rt x | _ => fl) 28 0 [(111, .ref 0), (0, .int x1)] [] = ((if x1 = (-1 : Int32) then
    bn (f_Table_wipe 43) fun v3 =>
    rt v3
  else
    bn (f_A_within x1 (0 : Int32) (25 : Int32)) fun v1 =>
    (if v1 = 0 then
      rt (-1 : Int32)
    else
      bn (f_Table_put 43 x1 (0 : Int32) (0 : Int32)) fun v2 =>
      rt v2))) := rfl
theorem s_A_box_0 {d : Nat} (hcs : AllS L X d (cs_A_box F_A_within F_Table_put F_Table_wipe)) (x1 : Int32) {o : Option Value × PH} {Q : (Int32) → MI → Prop} (q0 : ∀ v I, Q v I → o = (some (.int v), HH I)) (I : MI) (r : Int32) (I1 : MI) (h : F_A_box x1 I = some (r, I1)) (hq : Q r I1) : At L X (d + 1) 170 0 [(111, .ref 0), (0, .int x1)] [] I o := by
  refine wf_ok z_A_box hcs ?_ ?_ _ _ _ _ _ ⟨rfl, trivial, trivial⟩ trivial (unm_refl _ _) ((congrFun (e_s_A_box_0 (L := L) (X := X) F_A_within F_Table_put F_Table_wipe x1) I).trans h)
  · intro pc ls st I2 h1 h2 h3 h
    cases h
  · intro v I2 _ h
    split at h
    · cases h; exact q0 _ _ hq
    · cases h
theorem w_A_box {d : Nat} (hcs : AllS L X d (cs_A_box F_A_within F_Table_put F_Table_wipe)) : Snd L X (d + 1) 170 2 (W_A_box F_A_box) := by
  refine ⟨_, z_A_box, rfl, fun β args k I r hty hlen h => ?_⟩
  unfold W_A_box at h
  split at h
  · rename_i t0 a0 u1 a1
    obtain ⟨hb0, h⟩ := mB_ok h
    have e0 := Nat.eq_of_beq_eq_true hb0
    have g0 : okB 111 a0 = true := e0 ▸ hty.1
    have e20 := one_111 g0
    subst e20
    obtain ⟨v, I1, h1, h2⟩ := bn_some h
    refine ⟨gf_obj (c := 11) (by decide) g0, rfl, some (0, .int v), I1, trivial, ?_, h2⟩
    exact s_A_box_0 hcs a1  (Q := fun w I => w = v ∧ I = I1) (fun w I q => by obtain ⟨rfl, rfl⟩ := q; rfl) I v I1 h1 ⟨rfl, rfl⟩
  · cases h
theorem S_A_box {d : Nat} (hd : 4 ≤ d) : Snd L X d 170 2 (W_A_box F_A_box) := by
  obtain ⟨e, rfl⟩ : ∃ e, d = e + 1 := ⟨d - 1, by omega⟩
  exact w_A_box ⟨S_A_within (by omega), S_Table_put (by omega), S_Table_wipe (by omega), trivial⟩
set_option maxRecDepth 100000 in
theorem z_A_end : pT[65]? = some (q_A_end, 2, 2, 2, 11) := rfl
def W_A_end (F : Int32 → M Int32) : CSem := fun _ args k => match args with
  | [(t0, .ref a0), (_, .int a1)] => mB (Nat.beq t0 111) <| bn (F a1) fun v => k (some (0, .int v))
  | _ => fl
def cs_A_end (f_A_within : Int32 → Int32 → Int32 → M Int32) : List (Nat × Nat × CSem) := [(18, 3, W_A_within f_A_within)]
def F_A_end (x1 : Int32) : M (Int32) :=
  bn (rd 93 0) fun v1 =>
  bn (F_A_within x1 (0 : Int32) v1) fun v2 =>
  (if v2 = 0 then
    bn (gdZ (0 : Int32)) fun _ => rt (0 : Int32)
  else
    bn (wr 93 0 x1) fun _ =>
    bn (gdZ (1 : Int32)) fun _ => rt (1 : Int32))
set_option maxRecDepth 4000 in
theorem e_s_A_end_0 (f_A_within : Int32 → Int32 → Int32 → M Int32) (x1 : Int32) : wf (β := Int32) L X q_A_end 2 (cs_A_end f_A_within) [] [] (fun _ _ _ => fl) (fun v => match v with | some (_, .int x) => rt x | _ => fl) 20 0 [(111, .ref 0), (0, .int x1)] [] = (bn (rd 93 0) fun v1 =>
  bn (f_A_within x1 (0 : Int32) v1) fun v2 =>
  (if v2 = 0 then
    bn (gdZ (0 : Int32)) fun _ => rt (0 : Int32)
  else
    bn (wr 93 0 x1) fun _ =>
    bn (gdZ (1 : Int32)) fun _ => rt (1 : Int32))) := rfl
theorem s_A_end_0 {d : Nat} (hcs : AllS L X d (cs_A_end F_A_within)) (x1 : Int32) {o : Option Value × PH} {Q : (Int32) → MI → Prop} (q0 : ∀ v I, Q v I → o = (some (.int v), HH I)) (I : MI) (r : Int32) (I1 : MI) (h : F_A_end x1 I = some (r, I1)) (hq : Q r I1) : At L X (d + 1) 65 0 [(111, .ref 0), (0, .int x1)] [] I o := by
  refine wf_ok z_A_end hcs ?_ ?_ _ _ _ _ _ ⟨rfl, trivial, trivial⟩ trivial (unm_refl _ _) ((congrFun (e_s_A_end_0 (L := L) (X := X) F_A_within x1) I).trans h)
  · intro pc ls st I2 h1 h2 h3 h
    cases h
  · intro v I2 _ h
    split at h
    · cases h; exact q0 _ _ hq
    · cases h
theorem w_A_end {d : Nat} (hcs : AllS L X d (cs_A_end F_A_within)) : Snd L X (d + 1) 65 2 (W_A_end F_A_end) := by
  refine ⟨_, z_A_end, rfl, fun β args k I r hty hlen h => ?_⟩
  unfold W_A_end at h
  split at h
  · rename_i t0 a0 u1 a1
    obtain ⟨hb0, h⟩ := mB_ok h
    have e0 := Nat.eq_of_beq_eq_true hb0
    have g0 : okB 111 a0 = true := e0 ▸ hty.1
    have e20 := one_111 g0
    subst e20
    obtain ⟨v, I1, h1, h2⟩ := bn_some h
    refine ⟨gf_obj (c := 11) (by decide) g0, rfl, some (0, .int v), I1, trivial, ?_, h2⟩
    exact s_A_end_0 hcs a1  (Q := fun w I => w = v ∧ I = I1) (fun w I q => by obtain ⟨rfl, rfl⟩ := q; rfl) I v I1 h1 ⟨rfl, rfl⟩
  · cases h
theorem S_A_end {d : Nat} (hd : 2 ≤ d) : Snd L X d 65 2 (W_A_end F_A_end) := by
  obtain ⟨e, rfl⟩ : ∃ e, d = e + 1 := ⟨d - 1, by omega⟩
  exact w_A_end ⟨S_A_within (by omega), trivial⟩
set_option maxRecDepth 100000 in
theorem z_A_fault : pT[110]? = some (q_A_fault, 2, 2, 1, 11) := rfl
def W_A_fault (F : Int32 → M Int32) : CSem := fun _ args k => match args with
  | [(t0, .ref a0), (_, .int a1)] => mB (Nat.beq t0 111) <| bn (F a1) fun v => k (some (0, .int v))
  | _ => fl
def cs_A_fault : List (Nat × Nat × CSem) := []
def F_A_fault (x1 : Int32) : M (Int32) :=
  (if x1 = (0 : Int32) then
    bn (rd 93 1) fun v1 =>
    rt v1
  else (if x1 = (1 : Int32) then
    bn (rd 93 2) fun v2 =>
    rt v2
  else rt (-1 : Int32)))
set_option maxRecDepth 4000 in
theorem e_s_A_fault_0 (x1 : Int32) : wf (β := Int32) L X q_A_fault 1 cs_A_fault [] [] (fun _ _ _ => fl) (fun v => match v with | some (_, .int x) => rt x | _ => fl) 17 0 [(111, .ref 0), (0, .int x1)] [] = ((if x1 = (0 : Int32) then
    bn (rd 93 1) fun v1 =>
    rt v1
  else (if x1 = (1 : Int32) then
    bn (rd 93 2) fun v2 =>
    rt v2
  else rt (-1 : Int32)))) := rfl
theorem s_A_fault_0 {d : Nat} (hcs : AllS L X d cs_A_fault) (x1 : Int32) {o : Option Value × PH} {Q : (Int32) → MI → Prop} (q0 : ∀ v I, Q v I → o = (some (.int v), HH I)) (I : MI) (r : Int32) (I1 : MI) (h : F_A_fault x1 I = some (r, I1)) (hq : Q r I1) : At L X (d + 1) 110 0 [(111, .ref 0), (0, .int x1)] [] I o := by
  refine wf_ok z_A_fault hcs ?_ ?_ _ _ _ _ _ ⟨rfl, trivial, trivial⟩ trivial (unm_refl _ _) ((congrFun (e_s_A_fault_0 (L := L) (X := X) x1) I).trans h)
  · intro pc ls st I2 h1 h2 h3 h
    cases h
  · intro v I2 _ h
    split at h
    · cases h; exact q0 _ _ hq
    · cases h
theorem w_A_fault {d : Nat} (hcs : AllS L X d cs_A_fault) : Snd L X (d + 1) 110 2 (W_A_fault F_A_fault) := by
  refine ⟨_, z_A_fault, rfl, fun β args k I r hty hlen h => ?_⟩
  unfold W_A_fault at h
  split at h
  · rename_i t0 a0 u1 a1
    obtain ⟨hb0, h⟩ := mB_ok h
    have e0 := Nat.eq_of_beq_eq_true hb0
    have g0 : okB 111 a0 = true := e0 ▸ hty.1
    have e20 := one_111 g0
    subst e20
    obtain ⟨v, I1, h1, h2⟩ := bn_some h
    refine ⟨gf_obj (c := 11) (by decide) g0, rfl, some (0, .int v), I1, trivial, ?_, h2⟩
    exact s_A_fault_0 hcs a1  (Q := fun w I => w = v ∧ I = I1) (fun w I q => by obtain ⟨rfl, rfl⟩ := q; rfl) I v I1 h1 ⟨rfl, rfl⟩
  · cases h
theorem S_A_fault {d : Nat} (hd : 1 ≤ d) : Snd L X d 110 2 (W_A_fault F_A_fault) := by
  obtain ⟨e, rfl⟩ : ∃ e, d = e + 1 := ⟨d - 1, by omega⟩
  exact w_A_fault trivial
set_option maxRecDepth 100000 in
theorem z_Reader_hasRoom : pT[63]? = some (q_Reader_hasRoom, 1, 1, 2, 5) := rfl
def W_Reader_hasRoom (F : M Int32) : CSem := fun _ args k => match args with
  | [(t0, .ref a0)] => mB (Nat.beq t0 105) <| bn (F) fun v => k (some (0, .int v))
  | _ => fl
def cs_Reader_hasRoom : List (Nat × Nat × CSem) := []
def F_Reader_hasRoom : M (Int32) :=
  bn (rd 93 0) fun v1 =>
  (if (400 : Int32) < (v1 + (20 : Int32)) then
    bn (gdZ (0 : Int32)) fun _ => rt (0 : Int32)
  else
    bn (gdZ (1 : Int32)) fun _ => rt (1 : Int32))
set_option maxRecDepth 4000 in
theorem e_s_Reader_hasRoom_0 : wf (β := Int32) L X q_Reader_hasRoom 2 cs_Reader_hasRoom [] [] (fun _ _ _ => fl) (fun v => match v with | some (_, .int x) => rt x | _ => fl) 15 0 [(105, .ref 93)] [] = (bn (rd 93 0) fun v1 =>
  (if (400 : Int32) < (v1 + (20 : Int32)) then
    bn (gdZ (0 : Int32)) fun _ => rt (0 : Int32)
  else
    bn (gdZ (1 : Int32)) fun _ => rt (1 : Int32))) := rfl
theorem s_Reader_hasRoom_0 {d : Nat} (hcs : AllS L X d cs_Reader_hasRoom) {o : Option Value × PH} {Q : (Int32) → MI → Prop} (q0 : ∀ v I, Q v I → o = (some (.int v), HH I)) (I : MI) (r : Int32) (I1 : MI) (h : F_Reader_hasRoom I = some (r, I1)) (hq : Q r I1) : At L X (d + 1) 63 0 [(105, .ref 93)] [] I o := by
  refine wf_ok z_Reader_hasRoom hcs ?_ ?_ _ _ _ _ _ ⟨rfl, trivial⟩ trivial (unm_refl _ _) ((congrFun (e_s_Reader_hasRoom_0 (L := L) (X := X)) I).trans h)
  · intro pc ls st I2 h1 h2 h3 h
    cases h
  · intro v I2 _ h
    split at h
    · cases h; exact q0 _ _ hq
    · cases h
theorem w_Reader_hasRoom {d : Nat} (hcs : AllS L X d cs_Reader_hasRoom) : Snd L X (d + 1) 63 1 (W_Reader_hasRoom F_Reader_hasRoom) := by
  refine ⟨_, z_Reader_hasRoom, rfl, fun β args k I r hty hlen h => ?_⟩
  unfold W_Reader_hasRoom at h
  split at h
  · rename_i t0 a0
    obtain ⟨hb0, h⟩ := mB_ok h
    have e0 := Nat.eq_of_beq_eq_true hb0
    have g0 : okB 105 a0 = true := e0 ▸ hty.1
    have e20 := one_105 g0
    subst e20
    obtain ⟨v, I1, h1, h2⟩ := bn_some h
    refine ⟨gf_obj (c := 5) (by decide) g0, rfl, some (0, .int v), I1, trivial, ?_, h2⟩
    exact s_Reader_hasRoom_0 hcs   (Q := fun w I => w = v ∧ I = I1) (fun w I q => by obtain ⟨rfl, rfl⟩ := q; rfl) I v I1 h1 ⟨rfl, rfl⟩
  · cases h
theorem S_Reader_hasRoom {d : Nat} (hd : 1 ≤ d) : Snd L X d 63 1 (W_Reader_hasRoom F_Reader_hasRoom) := by
  obtain ⟨e, rfl⟩ : ∃ e, d = e + 1 := ⟨d - 1, by omega⟩
  exact w_Reader_hasRoom trivial
set_option maxRecDepth 100000 in
theorem z_Reader_take : pT[64]? = some (q_Reader_take, 2, 3, 0, 5) := rfl
def W_Reader_take (F : Int32 → M Unit) : CSem := fun _ args k => match args with
  | [(t0, .ref a0), (_, .int a1)] => mB (Nat.beq t0 105) <| bn (F a1) fun _ => k none
  | _ => fl
def cs_Reader_take : List (Nat × Nat × CSem) := []
def B_Reader_take_3 (x1 : Int32) (y : Int32) : M ((Int32) ⊕ (Unit)) :=
  (if y < 0 then
    rt (.inr ())
  else
    bn (rd 93 0) fun v1 =>
    (if v1 < (400 : Int32) then
      bn (rd 93 0) fun v2 =>
      bn (sr 400 106 v2 ((ush x1 y) &&& (255 : Int32))) fun _ =>
      bn (rd 93 0) fun v3 =>
      bn (wr 93 0 (v3 + (1 : Int32))) fun _ =>
      rt (.inl (y + (-8 : Int32)))
    else
      rt (.inr ())))
set_option maxRecDepth 4000 in
theorem e_b_Reader_take_3 (x1 : Int32) (y : Int32) : wf (β := (Int32) ⊕ (Unit)) L X q_Reader_take 0 cs_Reader_take [2] [3] (fun pc ls st => mC (Nat.beq pc 3) (mN st <| gI ls 2 fun a2 => rt (.inl a2)) (fl)) (fun v => match v with | none => rt (.inr ()) | _ => fl) 32 3 [(105, .ref 93), (0, .int x1), (0, .int y)] [] = ((if y < 0 then
    rt (.inr ())
  else
    bn (rd 93 0) fun v1 =>
    (if v1 < (400 : Int32) then
      bn (rd 93 0) fun v2 =>
      bn (sr 400 106 v2 ((ush x1 y) &&& (255 : Int32))) fun _ =>
      bn (rd 93 0) fun v3 =>
      bn (wr 93 0 (v3 + (1 : Int32))) fun _ =>
      rt (.inl (y + (-8 : Int32)))
    else
      rt (.inr ())))) := rfl
theorem b_Reader_take_3 {d : Nat} (hcs : AllS L X d cs_Reader_take) (x1 : Int32) {o : Option Value × PH} {Q : ((Int32) ⊕ (Unit)) → MI → Prop} (qb : ∀ y I, Q (.inl y) I → At L X (d + 1) 64 3 [(105, .ref 93), (0, .int x1), (0, .int y)] [] I o) (qr : ∀ v I, Q (.inr v) I → o = (none, HH I)) (y : Int32) (I : MI) (r : (Int32) ⊕ (Unit)) (I1 : MI) (h : B_Reader_take_3 x1 y I = some (r, I1)) (hq : Q r I1) : At L X (d + 1) 64 3 [(105, .ref 93), (0, .int x1), (0, .int y)] [] I o := by
  refine wf_ok z_Reader_take hcs ?_ ?_ _ _ _ _ _ ⟨rfl, trivial, trivial, trivial⟩ trivial (unm_refl _ _) ((congrFun (e_b_Reader_take_3 (L := L) (X := X) x1 y) I).trans h)
  · intro pc ls st I2 h1 h2 h3 h
    rcases mC_ok h with ⟨hb, h⟩ | ⟨_, h⟩
    · have e := Nat.eq_of_beq_eq_true hb
      subst e
      obtain ⟨hst, h⟩ := mN_ok h
      subst hst
      obtain ⟨a2, n2, h⟩ := gI_ok h
      refine at_leaf (ls2 := [(105, .ref 93), (0, .int x1), (0, .int a2)]) h3.1 ⟨Or.inr ⟨_, (h3.2 0 rfl).trans rfl⟩, Or.inr ⟨_, (h3.2 1 rfl).trans rfl⟩, Or.inr n2, trivial⟩ ?_
      cases h; exact qb _ _ hq
    cases h
  · intro v I2 _ h
    split at h
    · cases h; exact qr _ _ hq
    · cases h
def K_Reader_take_3 (x1 : Int32) (x2 : Int32) : M (Unit) :=
  lp (B_Reader_take_3 x1) FU x2
theorem s_Reader_take_3 {d : Nat} (hcs : AllS L X d cs_Reader_take) (x1 : Int32) (x2 : Int32) {o : Option Value × PH} {Q : (Unit) → MI → Prop} (q0 : ∀ v I, Q v I → o = (none, HH I)) (I : MI) (r : Unit) (I1 : MI) (h : K_Reader_take_3 x1 x2 I = some (r, I1)) (hq : Q r I1) : At L X (d + 1) 64 3 [(105, .ref 93), (0, .int x1), (0, .int x2)] [] I o := by
  unfold K_Reader_take_3 at h
  have w0 := fun w => at_lp (body := B_Reader_take_3 x1) (P := (fun (y : Int32) I => At L X (d + 1) 64 3 [(105, .ref 93), (0, .int x1), (0, .int y)] [] I o)) (Q := (fun (e : Unit) I => Q e I)) w FU x2 I r I1 h hq
  refine w0 ?_
  intro y I r I1 h hq
  exact b_Reader_take_3 hcs x1 (Q := SQ (fun (y : Int32) I => At L X (d + 1) 64 3 [(105, .ref 93), (0, .int x1), (0, .int y)] [] I o) (fun (e : Unit) I => Q e I)) (fun _ _ w => w) q0 y I r I1 h hq
def F_Reader_take (x1 : Int32) : M (Unit) :=
  K_Reader_take_3 x1 (24 : Int32)
set_option maxRecDepth 4000 in
theorem e_s_Reader_take_0 (k_3 : Int32 → Int32 → M (Unit)) (x1 : Int32) : wf (β := Unit) L X q_Reader_take 0 cs_Reader_take [2] [3] (fun pc ls st => mC (Nat.beq pc 3) (mN st <| gI ls 2 fun a2 => k_3 x1 a2) (fl)) (fun v => match v with | none => rt () | _ => fl) 32 0 [(105, .ref 93), (0, .int x1), (0, dV)] [] = (k_3 x1 (24 : Int32)) := rfl
theorem s_Reader_take_0 {d : Nat} (hcs : AllS L X d cs_Reader_take) (x1 : Int32) {o : Option Value × PH} {Q : (Unit) → MI → Prop} (q0 : ∀ v I, Q v I → o = (none, HH I)) (I : MI) (r : Unit) (I1 : MI) (h : F_Reader_take x1 I = some (r, I1)) (hq : Q r I1) : At L X (d + 1) 64 0 [(105, .ref 93), (0, .int x1), (0, dV)] [] I o := by
  refine wf_ok z_Reader_take hcs ?_ ?_ _ _ _ _ _ ⟨rfl, trivial, trivial, trivial⟩ trivial (unm_refl _ _) ((congrFun (e_s_Reader_take_0 (L := L) (X := X) K_Reader_take_3 x1) I).trans h)
  · intro pc ls st I2 h1 h2 h3 h
    rcases mC_ok h with ⟨hb, h⟩ | ⟨_, h⟩
    · have e := Nat.eq_of_beq_eq_true hb
      subst e
      obtain ⟨hst, h⟩ := mN_ok h
      subst hst
      obtain ⟨a2, n2, h⟩ := gI_ok h
      refine at_leaf (ls2 := [(105, .ref 93), (0, .int x1), (0, .int a2)]) h3.1 ⟨Or.inr ⟨_, (h3.2 0 rfl).trans rfl⟩, Or.inr ⟨_, (h3.2 1 rfl).trans rfl⟩, Or.inr n2, trivial⟩ ?_
      exact s_Reader_take_3 hcs x1 a2 q0 _ _ _ h hq
    cases h
  · intro v I2 _ h
    split at h
    · cases h; exact q0 _ _ hq
    · cases h
theorem w_Reader_take {d : Nat} (hcs : AllS L X d cs_Reader_take) : Snd L X (d + 1) 64 2 (W_Reader_take F_Reader_take) := by
  refine ⟨_, z_Reader_take, rfl, fun β args k I r hty hlen h => ?_⟩
  unfold W_Reader_take at h
  split at h
  · rename_i t0 a0 u1 a1
    obtain ⟨hb0, h⟩ := mB_ok h
    have e0 := Nat.eq_of_beq_eq_true hb0
    have g0 : okB 105 a0 = true := e0 ▸ hty.1
    have e20 := one_105 g0
    subst e20
    obtain ⟨v, I1, h1, h2⟩ := bn_some h
    refine ⟨gf_obj (c := 5) (by decide) g0, rfl, none, I1, trivial, ?_, h2⟩
    exact s_Reader_take_0 hcs a1  (Q := fun w I => w = v ∧ I = I1) (fun w I q => by obtain ⟨rfl, rfl⟩ := q; rfl) I v I1 h1 ⟨rfl, rfl⟩
  · cases h
theorem S_Reader_take {d : Nat} (hd : 1 ≤ d) : Snd L X d 64 2 (W_Reader_take F_Reader_take) := by
  obtain ⟨e, rfl⟩ : ∃ e, d = e + 1 := ⟨d - 1, by omega⟩
  exact w_Reader_take trivial
set_option maxRecDepth 100000 in
theorem z_A_feed : pT[62]? = some (q_A_feed, 6, 6, 1, 11) := rfl
def W_A_feed (F : Int32 → Int32 → Int32 → Int32 → Int32 → M Int32) : CSem := fun _ args k => match args with
  | [(t0, .ref a0), (_, .int a1), (_, .int a2), (_, .int a3), (_, .int a4), (_, .int a5)] => mB (Nat.beq t0 111) <| bn (F a1 a2 a3 a4 a5) fun v => k (some (0, .int v))
  | _ => fl
def cs_A_feed (f_Reader_hasRoom : M Int32) (f_Reader_take : Int32 → M Unit) : List (Nat × Nat × CSem) := [(63, 1, W_Reader_hasRoom f_Reader_hasRoom), (64, 2, W_Reader_take f_Reader_take)]
def F_A_feed (x1 : Int32) (x2 : Int32) (x3 : Int32) (x4 : Int32) (x5 : Int32) : M (Int32) :=
  bn (F_Reader_hasRoom) fun v1 =>
  (if v1 = 0 then
    rt (-1 : Int32)
  else
    bn (F_Reader_take x1) fun _ =>
    bn (F_Reader_take x2) fun _ =>
    bn (F_Reader_take x3) fun _ =>
    bn (F_Reader_take x4) fun _ =>
    bn (F_Reader_take x5) fun _ =>
    bn (rd 93 0) fun v2 =>
    rt v2)
set_option maxRecDepth 4000 in
theorem e_s_A_feed_0 (f_Reader_hasRoom : M Int32) (f_Reader_take : Int32 → M Unit) (x1 : Int32) (x2 : Int32) (x3 : Int32) (x4 : Int32) (x5 : Int32) : wf (β := Int32) L X q_A_feed 1 (cs_A_feed f_Reader_hasRoom f_Reader_take) [] [] (fun _ _ _ => fl) (fun v => match v with | some (_, .int x) => rt x | _ => fl) 35 0 [(111, .ref 0), (0, .int x1), (0, .int x2), (0, .int x3), (0, .int x4), (0, .int x5)] [] = (bn (f_Reader_hasRoom) fun v1 =>
  (if v1 = 0 then
    rt (-1 : Int32)
  else
    bn (f_Reader_take x1) fun _ =>
    bn (f_Reader_take x2) fun _ =>
    bn (f_Reader_take x3) fun _ =>
    bn (f_Reader_take x4) fun _ =>
    bn (f_Reader_take x5) fun _ =>
    bn (rd 93 0) fun v2 =>
    rt v2)) := rfl
theorem s_A_feed_0 {d : Nat} (hcs : AllS L X d (cs_A_feed F_Reader_hasRoom F_Reader_take)) (x1 : Int32) (x2 : Int32) (x3 : Int32) (x4 : Int32) (x5 : Int32) {o : Option Value × PH} {Q : (Int32) → MI → Prop} (q0 : ∀ v I, Q v I → o = (some (.int v), HH I)) (I : MI) (r : Int32) (I1 : MI) (h : F_A_feed x1 x2 x3 x4 x5 I = some (r, I1)) (hq : Q r I1) : At L X (d + 1) 62 0 [(111, .ref 0), (0, .int x1), (0, .int x2), (0, .int x3), (0, .int x4), (0, .int x5)] [] I o := by
  refine wf_ok z_A_feed hcs ?_ ?_ _ _ _ _ _ ⟨rfl, trivial, trivial, trivial, trivial, trivial, trivial⟩ trivial (unm_refl _ _) ((congrFun (e_s_A_feed_0 (L := L) (X := X) F_Reader_hasRoom F_Reader_take x1 x2 x3 x4 x5) I).trans h)
  · intro pc ls st I2 h1 h2 h3 h
    cases h
  · intro v I2 _ h
    split at h
    · cases h; exact q0 _ _ hq
    · cases h
theorem w_A_feed {d : Nat} (hcs : AllS L X d (cs_A_feed F_Reader_hasRoom F_Reader_take)) : Snd L X (d + 1) 62 6 (W_A_feed F_A_feed) := by
  refine ⟨_, z_A_feed, rfl, fun β args k I r hty hlen h => ?_⟩
  unfold W_A_feed at h
  split at h
  · rename_i t0 a0 u1 a1 u2 a2 u3 a3 u4 a4 u5 a5
    obtain ⟨hb0, h⟩ := mB_ok h
    have e0 := Nat.eq_of_beq_eq_true hb0
    have g0 : okB 111 a0 = true := e0 ▸ hty.1
    have e20 := one_111 g0
    subst e20
    obtain ⟨v, I1, h1, h2⟩ := bn_some h
    refine ⟨gf_obj (c := 11) (by decide) g0, rfl, some (0, .int v), I1, trivial, ?_, h2⟩
    exact s_A_feed_0 hcs a1 a2 a3 a4 a5  (Q := fun w I => w = v ∧ I = I1) (fun w I q => by obtain ⟨rfl, rfl⟩ := q; rfl) I v I1 h1 ⟨rfl, rfl⟩
  · cases h
theorem S_A_feed {d : Nat} (hd : 2 ≤ d) : Snd L X d 62 6 (W_A_feed F_A_feed) := by
  obtain ⟨e, rfl⟩ : ∃ e, d = e + 1 := ⟨d - 1, by omega⟩
  exact w_A_feed ⟨S_Reader_hasRoom (by omega), S_Reader_take (by omega), trivial⟩
set_option maxRecDepth 100000 in
theorem z_Riddles_leavesLost : pT[183]? = some (q_Riddles_leavesLost, 3, 3, 2, 6) := rfl
def W_Riddles_leavesLost (F : Int32 → Int32 → M Int32) : CSem := fun _ args k => match args with
  | [(t0, .ref a0), (_, .int a1), (_, .int a2)] => mB (Nat.beq t0 106) <| bn (F a1 a2) fun v => k (some (0, .int v))
  | _ => fl
def cs_Riddles_leavesLost (f_A_within : Int32 → Int32 → Int32 → M Int32) : List (Nat × Nat × CSem) := [(18, 3, W_A_within f_A_within)]
def F_Riddles_leavesLost (x1 : Int32) (x2 : Int32) : M (Int32) :=
  bn (F_A_within x1 (0 : Int32) (40 : Int32)) fun v1 =>
  (if v1 = 0 then
    bn (gdZ (0 : Int32)) fun _ => rt (0 : Int32)
  else
    (if x2 < 0 then
      bn (gdZ (0 : Int32)) fun _ => rt (0 : Int32)
    else
      bn (ld 41 206 x1) fun v2 =>
      (if v2 = x2 then
        bn (gdZ (1 : Int32)) fun _ => rt (1 : Int32)
      else
        bn (gdZ (0 : Int32)) fun _ => rt (0 : Int32))))
set_option maxRecDepth 4000 in
theorem e_s_Riddles_leavesLost_0 (f_A_within : Int32 → Int32 → Int32 → M Int32) (x1 : Int32) (x2 : Int32) : wf (β := Int32) L X q_Riddles_leavesLost 2 (cs_Riddles_leavesLost f_A_within) [] [] (fun _ _ _ => fl) (fun v => match v with | some (_, .int x) => rt x | _ => fl) 22 0 [(106, .ref 195), (0, .int x1), (0, .int x2)] [] = (bn (f_A_within x1 (0 : Int32) (40 : Int32)) fun v1 =>
  (if v1 = 0 then
    bn (gdZ (0 : Int32)) fun _ => rt (0 : Int32)
  else
    (if x2 < 0 then
      bn (gdZ (0 : Int32)) fun _ => rt (0 : Int32)
    else
      bn (ld 41 206 x1) fun v2 =>
      (if v2 = x2 then
        bn (gdZ (1 : Int32)) fun _ => rt (1 : Int32)
      else
        bn (gdZ (0 : Int32)) fun _ => rt (0 : Int32))))) := rfl
theorem s_Riddles_leavesLost_0 {d : Nat} (hcs : AllS L X d (cs_Riddles_leavesLost F_A_within)) (x1 : Int32) (x2 : Int32) {o : Option Value × PH} {Q : (Int32) → MI → Prop} (q0 : ∀ v I, Q v I → o = (some (.int v), HH I)) (I : MI) (r : Int32) (I1 : MI) (h : F_Riddles_leavesLost x1 x2 I = some (r, I1)) (hq : Q r I1) : At L X (d + 1) 183 0 [(106, .ref 195), (0, .int x1), (0, .int x2)] [] I o := by
  refine wf_ok z_Riddles_leavesLost hcs ?_ ?_ _ _ _ _ _ ⟨rfl, trivial, trivial, trivial⟩ trivial (unm_refl _ _) ((congrFun (e_s_Riddles_leavesLost_0 (L := L) (X := X) F_A_within x1 x2) I).trans h)
  · intro pc ls st I2 h1 h2 h3 h
    cases h
  · intro v I2 _ h
    split at h
    · cases h; exact q0 _ _ hq
    · cases h
theorem w_Riddles_leavesLost {d : Nat} (hcs : AllS L X d (cs_Riddles_leavesLost F_A_within)) : Snd L X (d + 1) 183 3 (W_Riddles_leavesLost F_Riddles_leavesLost) := by
  refine ⟨_, z_Riddles_leavesLost, rfl, fun β args k I r hty hlen h => ?_⟩
  unfold W_Riddles_leavesLost at h
  split at h
  · rename_i t0 a0 u1 a1 u2 a2
    obtain ⟨hb0, h⟩ := mB_ok h
    have e0 := Nat.eq_of_beq_eq_true hb0
    have g0 : okB 106 a0 = true := e0 ▸ hty.1
    have e20 := one_106 g0
    subst e20
    obtain ⟨v, I1, h1, h2⟩ := bn_some h
    refine ⟨gf_obj (c := 6) (by decide) g0, rfl, some (0, .int v), I1, trivial, ?_, h2⟩
    exact s_Riddles_leavesLost_0 hcs a1 a2  (Q := fun w I => w = v ∧ I = I1) (fun w I q => by obtain ⟨rfl, rfl⟩ := q; rfl) I v I1 h1 ⟨rfl, rfl⟩
  · cases h
theorem S_Riddles_leavesLost {d : Nat} (hd : 2 ≤ d) : Snd L X d 183 3 (W_Riddles_leavesLost F_Riddles_leavesLost) := by
  obtain ⟨e, rfl⟩ : ∃ e, d = e + 1 := ⟨d - 1, by omega⟩
  exact w_Riddles_leavesLost ⟨S_A_within (by omega), trivial⟩
set_option maxRecDepth 100000 in
theorem z_Riddles_goodTake : pT[182]? = some (q_Riddles_goodTake, 4, 6, 1, 6) := rfl
def W_Riddles_goodTake (F : Int32 → Int32 → Int32 → M Int32) : CSem := fun _ args k => match args with
  | [(t0, .ref a0), (_, .int a1), (_, .int a2), (_, .int a3)] => mB (Nat.beq t0 106) <| bn (F a1 a2 a3) fun v => k (some (0, .int v))
  | _ => fl
def cs_Riddles_goodTake (f_Riddles_leavesLost : Int32 → Int32 → M Int32) : List (Nat × Nat × CSem) := [(183, 3, W_Riddles_leavesLost f_Riddles_leavesLost)]
def K_Riddles_goodTake_83 (x1 : Int32) (x2 : Int32) (x3 : Int32) (x4 : Int32) (x5 : Int32) : M ((Int32) ⊕ ((Int32 × Int32) ⊕ Int32)) :=
  (if x5 = (-1 : Int32) then
    rt (.inl (x4 + (1 : Int32)))
  else
    rt (.inr (.inl (x4, x5))))
set_option maxRecDepth 4000 in
theorem e_s_Riddles_goodTake_83 (f_Riddles_leavesLost : Int32 → Int32 → M Int32) (x1 : Int32) (x2 : Int32) (x3 : Int32) (x4 : Int32) (x5 : Int32) : wf (β := (Int32) ⊕ ((Int32 × Int32) ⊕ Int32)) L X q_Riddles_goodTake 1 (cs_Riddles_goodTake f_Riddles_leavesLost) [4] [3, 83, 89] (fun pc ls st => mC (Nat.beq pc 3) (mN st <| gI ls 4 fun a4 => gD ls 5 <| rt (.inl a4)) (mC (Nat.beq pc 89) (mN st <| gD ls 0 <| gD ls 1 <| gD ls 2 <| gI ls 4 fun a4 => rt (.inr (.inl (a4, x5)))) (fl))) (fun v => match v with | some (_, .int x) => rt (.inr (.inr x)) | _ => fl) 70 83 [(106, .ref 195), (0, .int x1), (0, .int x2), (0, .int x3), (0, .int x4), (0, .int x5)] [] = ((if x5 = (-1 : Int32) then
    rt (.inl (x4 + (1 : Int32)))
  else
    rt (.inr (.inl (x4, x5))))) := rfl
theorem s_Riddles_goodTake_83 {d : Nat} (hcs : AllS L X d (cs_Riddles_goodTake F_Riddles_leavesLost)) (x1 : Int32) (x2 : Int32) (x3 : Int32) (x4 : Int32) (x5 : Int32) {o : Option Value × PH} {Q : ((Int32) ⊕ ((Int32 × Int32) ⊕ Int32)) → MI → Prop} (qb : ∀ y I, Q (.inl y) I → At L X (d + 1) 182 3 [(106, .ref 195), (0, .int x1), (0, .int x2), (0, .int x3), (0, .int y), (0, dV)] [] I o) (qe89 : ∀ y I, Q (.inr (.inl y)) I → At L X (d + 1) 182 89 [(0, dV), (0, dV), (0, dV), (0, .int x3), (0, .int y.1), (0, .int y.2)] [] I o) (qr : ∀ v I, Q (.inr (.inr v)) I → o = (some (.int v), HH I)) (I : MI) (r : (Int32) ⊕ ((Int32 × Int32) ⊕ Int32)) (I1 : MI) (h : K_Riddles_goodTake_83 x1 x2 x3 x4 x5 I = some (r, I1)) (hq : Q r I1) : At L X (d + 1) 182 83 [(106, .ref 195), (0, .int x1), (0, .int x2), (0, .int x3), (0, .int x4), (0, .int x5)] [] I o := by
  refine wf_ok z_Riddles_goodTake hcs ?_ ?_ _ _ _ _ _ ⟨rfl, trivial, trivial, trivial, trivial, trivial, trivial⟩ trivial (unm_refl _ _) ((congrFun (e_s_Riddles_goodTake_83 (L := L) (X := X) F_Riddles_leavesLost x1 x2 x3 x4 x5) I).trans h)
  · intro pc ls st I2 h1 h2 h3 h
    rcases mC_ok h with ⟨hb, h⟩ | ⟨_, h⟩
    · have e := Nat.eq_of_beq_eq_true hb
      subst e
      obtain ⟨hst, h⟩ := mN_ok h
      subst hst
      obtain ⟨a4, n4, h⟩ := gI_ok h
      obtain ⟨n5, h⟩ := gD_ok h
      refine at_leaf (ls2 := [(106, .ref 195), (0, .int x1), (0, .int x2), (0, .int x3), (0, .int a4), (0, dV)]) h3.1 ⟨Or.inr ⟨_, (h3.2 0 rfl).trans rfl⟩, Or.inr ⟨_, (h3.2 1 rfl).trans rfl⟩, Or.inr ⟨_, (h3.2 2 rfl).trans rfl⟩, Or.inr ⟨_, (h3.2 3 rfl).trans rfl⟩, Or.inr n4, Or.inl ⟨rfl, n5⟩, trivial⟩ ?_
      cases h; exact qb _ _ hq
    rcases mC_ok h with ⟨hb, h⟩ | ⟨_, h⟩
    · have e := Nat.eq_of_beq_eq_true hb
      subst e
      obtain ⟨hst, h⟩ := mN_ok h
      subst hst
      obtain ⟨n0, h⟩ := gD_ok h
      obtain ⟨n1, h⟩ := gD_ok h
      obtain ⟨n2, h⟩ := gD_ok h
      obtain ⟨a4, n4, h⟩ := gI_ok h
      refine at_leaf (ls2 := [(0, dV), (0, dV), (0, dV), (0, .int x3), (0, .int a4), (0, .int x5)]) h3.1 ⟨Or.inl ⟨rfl, n0⟩, Or.inl ⟨rfl, n1⟩, Or.inl ⟨rfl, n2⟩, Or.inr ⟨_, (h3.2 3 rfl).trans rfl⟩, Or.inr n4, Or.inr ⟨_, (h3.2 5 rfl).trans rfl⟩, trivial⟩ ?_
      cases h; exact qe89 _ _ hq
    cases h
  · intro v I2 _ h
    split at h
    · cases h; exact qr _ _ hq
    · cases h
def B_Riddles_goodTake_3 (x1 : Int32) (x2 : Int32) (x3 : Int32) (y : Int32) : M ((Int32) ⊕ ((Int32 × Int32) ⊕ Int32)) :=
  (if (x1 + x2) < y then
    rt (.inr (.inr (-1 : Int32)))
  else
    bn (F_Riddles_leavesLost x1 (x2 - y)) fun v1 =>
    (if v1 = 0 then
      dvI (2 : Int32) <|
      (if (y - y / (2 : Int32) * (2 : Int32)) = 0 then
        dvI (2 : Int32) <|
        dvI (2 : Int32) <|
        bn (F_Riddles_leavesLost (x1 - (y / (2 : Int32))) (x2 - (y / (2 : Int32)))) fun v3 =>
        (if v3 = 0 then
          bn (F_Riddles_leavesLost (x1 - y) x2) fun v4 =>
          (if v4 = 0 then
            K_Riddles_goodTake_83 x1 x2 x3 y (-1 : Int32)
          else
            K_Riddles_goodTake_83 x1 x2 x3 y y)
        else
          dvI (2 : Int32) <|
          K_Riddles_goodTake_83 x1 x2 x3 y (y / (2 : Int32)))
      else
        bn (F_Riddles_leavesLost (x1 - y) x2) fun v2 =>
        (if v2 = 0 then
          K_Riddles_goodTake_83 x1 x2 x3 y (-1 : Int32)
        else
          K_Riddles_goodTake_83 x1 x2 x3 y y))
    else
      K_Riddles_goodTake_83 x1 x2 x3 y (0 : Int32)))
set_option maxRecDepth 4000 in
theorem e_b_Riddles_goodTake_3 (f_Riddles_leavesLost : Int32 → Int32 → M Int32) (k_83 : Int32 → Int32 → Int32 → Int32 → Int32 → M ((Int32) ⊕ ((Int32 × Int32) ⊕ Int32))) (x1 : Int32) (x2 : Int32) (x3 : Int32) (y : Int32) : wf (β := (Int32) ⊕ ((Int32 × Int32) ⊕ Int32)) L X q_Riddles_goodTake 1 (cs_Riddles_goodTake f_Riddles_leavesLost) [5] [3, 83, 89] (fun pc ls st => mC (Nat.beq pc 83) (mN st <| gI ls 5 fun a5 => k_83 x1 x2 x3 y a5) (fl)) (fun v => match v with | some (_, .int x) => rt (.inr (.inr x)) | _ => fl) 70 3 [(106, .ref 195), (0, .int x1), (0, .int x2), (0, .int x3), (0, .int y), (0, dV)] [] = ((if (x1 + x2) < y then
    rt (.inr (.inr (-1 : Int32)))
  else
    bn (f_Riddles_leavesLost x1 (x2 - y)) fun v1 =>
    (if v1 = 0 then
      dvI (2 : Int32) <|
      (if (y - y / (2 : Int32) * (2 : Int32)) = 0 then
        dvI (2 : Int32) <|
        dvI (2 : Int32) <|
        bn (f_Riddles_leavesLost (x1 - (y / (2 : Int32))) (x2 - (y / (2 : Int32)))) fun v3 =>
        (if v3 = 0 then
          bn (f_Riddles_leavesLost (x1 - y) x2) fun v4 =>
          (if v4 = 0 then
            k_83 x1 x2 x3 y (-1 : Int32)
          else
            k_83 x1 x2 x3 y y)
        else
          dvI (2 : Int32) <|
          k_83 x1 x2 x3 y (y / (2 : Int32)))
      else
        bn (f_Riddles_leavesLost (x1 - y) x2) fun v2 =>
        (if v2 = 0 then
          k_83 x1 x2 x3 y (-1 : Int32)
        else
          k_83 x1 x2 x3 y y))
    else
      k_83 x1 x2 x3 y (0 : Int32)))) := rfl
theorem b_Riddles_goodTake_3 {d : Nat} (hcs : AllS L X d (cs_Riddles_goodTake F_Riddles_leavesLost)) (x1 : Int32) (x2 : Int32) (x3 : Int32) {o : Option Value × PH} {Q : ((Int32) ⊕ ((Int32 × Int32) ⊕ Int32)) → MI → Prop} (qb : ∀ y I, Q (.inl y) I → At L X (d + 1) 182 3 [(106, .ref 195), (0, .int x1), (0, .int x2), (0, .int x3), (0, .int y), (0, dV)] [] I o) (qe89 : ∀ y I, Q (.inr (.inl y)) I → At L X (d + 1) 182 89 [(0, dV), (0, dV), (0, dV), (0, .int x3), (0, .int y.1), (0, .int y.2)] [] I o) (qr : ∀ v I, Q (.inr (.inr v)) I → o = (some (.int v), HH I)) (y : Int32) (I : MI) (r : (Int32) ⊕ ((Int32 × Int32) ⊕ Int32)) (I1 : MI) (h : B_Riddles_goodTake_3 x1 x2 x3 y I = some (r, I1)) (hq : Q r I1) : At L X (d + 1) 182 3 [(106, .ref 195), (0, .int x1), (0, .int x2), (0, .int x3), (0, .int y), (0, dV)] [] I o := by
  refine wf_ok z_Riddles_goodTake hcs ?_ ?_ _ _ _ _ _ ⟨rfl, trivial, trivial, trivial, trivial, trivial, trivial⟩ trivial (unm_refl _ _) ((congrFun (e_b_Riddles_goodTake_3 (L := L) (X := X) F_Riddles_leavesLost K_Riddles_goodTake_83 x1 x2 x3 y) I).trans h)
  · intro pc ls st I2 h1 h2 h3 h
    rcases mC_ok h with ⟨hb, h⟩ | ⟨_, h⟩
    · have e := Nat.eq_of_beq_eq_true hb
      subst e
      obtain ⟨hst, h⟩ := mN_ok h
      subst hst
      obtain ⟨a5, n5, h⟩ := gI_ok h
      refine at_leaf (ls2 := [(106, .ref 195), (0, .int x1), (0, .int x2), (0, .int x3), (0, .int y), (0, .int a5)]) h3.1 ⟨Or.inr ⟨_, (h3.2 0 rfl).trans rfl⟩, Or.inr ⟨_, (h3.2 1 rfl).trans rfl⟩, Or.inr ⟨_, (h3.2 2 rfl).trans rfl⟩, Or.inr ⟨_, (h3.2 3 rfl).trans rfl⟩, Or.inr ⟨_, (h3.2 4 rfl).trans rfl⟩, Or.inr n5, trivial⟩ ?_
      exact s_Riddles_goodTake_83 hcs x1 x2 x3 y a5 qb qe89 qr _ _ _ h hq
    cases h
  · intro v I2 _ h
    split at h
    · cases h; exact qr _ _ hq
    · cases h
def K_Riddles_goodTake_89 (x3 : Int32) (x4 : Int32) (x5 : Int32) : M (Int32) :=
  (if x3 = 0 then
    rt x5
  else
    rt (x4 - x5))
set_option maxRecDepth 4000 in
theorem e_s_Riddles_goodTake_89 (f_Riddles_leavesLost : Int32 → Int32 → M Int32) (x3 : Int32) (x4 : Int32) (x5 : Int32) : wf (β := Int32) L X q_Riddles_goodTake 1 (cs_Riddles_goodTake f_Riddles_leavesLost) [] [3, 83, 89] (fun _ _ _ => fl) (fun v => match v with | some (_, .int x) => rt x | _ => fl) 70 89 [(0, dV), (0, dV), (0, dV), (0, .int x3), (0, .int x4), (0, .int x5)] [] = ((if x3 = 0 then
    rt x5
  else
    rt (x4 - x5))) := rfl
theorem s_Riddles_goodTake_89 {d : Nat} (hcs : AllS L X d (cs_Riddles_goodTake F_Riddles_leavesLost)) (x3 : Int32) (x4 : Int32) (x5 : Int32) {o : Option Value × PH} {Q : (Int32) → MI → Prop} (q0 : ∀ v I, Q v I → o = (some (.int v), HH I)) (I : MI) (r : Int32) (I1 : MI) (h : K_Riddles_goodTake_89 x3 x4 x5 I = some (r, I1)) (hq : Q r I1) : At L X (d + 1) 182 89 [(0, dV), (0, dV), (0, dV), (0, .int x3), (0, .int x4), (0, .int x5)] [] I o := by
  refine wf_ok z_Riddles_goodTake hcs ?_ ?_ _ _ _ _ _ ⟨trivial, trivial, trivial, trivial, trivial, trivial, trivial⟩ trivial (unm_refl _ _) ((congrFun (e_s_Riddles_goodTake_89 (L := L) (X := X) F_Riddles_leavesLost x3 x4 x5) I).trans h)
  · intro pc ls st I2 h1 h2 h3 h
    cases h
  · intro v I2 _ h
    split at h
    · cases h; exact q0 _ _ hq
    · cases h
def K_Riddles_goodTake_3 (x1 : Int32) (x2 : Int32) (x3 : Int32) (x4 : Int32) : M (Int32) :=
  bn (lp (B_Riddles_goodTake_3 x1 x2 x3) FU x4) fun e => match e with
  | .inl e => K_Riddles_goodTake_89 x3 e.1 e.2
  | .inr e => rt e
theorem s_Riddles_goodTake_3 {d : Nat} (hcs : AllS L X d (cs_Riddles_goodTake F_Riddles_leavesLost)) (x1 : Int32) (x2 : Int32) (x3 : Int32) (x4 : Int32) {o : Option Value × PH} {Q : (Int32) → MI → Prop} (q0 : ∀ v I, Q v I → o = (some (.int v), HH I)) (I : MI) (r : Int32) (I1 : MI) (h : K_Riddles_goodTake_3 x1 x2 x3 x4 I = some (r, I1)) (hq : Q r I1) : At L X (d + 1) 182 3 [(106, .ref 195), (0, .int x1), (0, .int x2), (0, .int x3), (0, .int x4), (0, dV)] [] I o := by
  unfold K_Riddles_goodTake_3 at h
  obtain ⟨e, I2, h1, h2⟩ := bn_some h
  have w0 := fun w => at_lp (body := B_Riddles_goodTake_3 x1 x2 x3) (P := (fun (y : Int32) I => At L X (d + 1) 182 3 [(106, .ref 195), (0, .int x1), (0, .int x2), (0, .int x3), (0, .int y), (0, dV)] [] I o)) (Q := (fun (e : (Int32 × Int32) ⊕ Int32) I => (match e with | .inl e => K_Riddles_goodTake_89 x3 e.1 e.2 | .inr e => rt e : M (Int32)) I = some (r, I1))) w FU x4 I e I2 h1 h2
  refine w0 ?_
  intro y I r2 I3 h hq2
  exact b_Riddles_goodTake_3 hcs x1 x2 x3 (Q := SQ (fun (y : Int32) I => At L X (d + 1) 182 3 [(106, .ref 195), (0, .int x1), (0, .int x2), (0, .int x3), (0, .int y), (0, dV)] [] I o) (fun (e : (Int32 × Int32) ⊕ Int32) I => (match e with | .inl e => K_Riddles_goodTake_89 x3 e.1 e.2 | .inr e => rt e : M (Int32)) I = some (r, I1))) (fun _ _ w => w) (fun y I w => s_Riddles_goodTake_89 hcs x3 y.1 y.2 q0 _ _ _ w hq) (fun v I w => by cases w; exact q0 _ _ hq) y I r2 I3 h hq2
def F_Riddles_goodTake (x1 : Int32) (x2 : Int32) (x3 : Int32) : M (Int32) :=
  K_Riddles_goodTake_3 x1 x2 x3 (1 : Int32)
set_option maxRecDepth 4000 in
theorem e_s_Riddles_goodTake_0 (f_Riddles_leavesLost : Int32 → Int32 → M Int32) (k_3 : Int32 → Int32 → Int32 → Int32 → M (Int32)) (x1 : Int32) (x2 : Int32) (x3 : Int32) : wf (β := Int32) L X q_Riddles_goodTake 1 (cs_Riddles_goodTake f_Riddles_leavesLost) [4] [3, 83, 89] (fun pc ls st => mC (Nat.beq pc 3) (mN st <| gI ls 4 fun a4 => gD ls 5 <| k_3 x1 x2 x3 a4) (fl)) (fun v => match v with | some (_, .int x) => rt x | _ => fl) 70 0 [(106, .ref 195), (0, .int x1), (0, .int x2), (0, .int x3), (0, dV), (0, dV)] [] = (k_3 x1 x2 x3 (1 : Int32)) := rfl
theorem s_Riddles_goodTake_0 {d : Nat} (hcs : AllS L X d (cs_Riddles_goodTake F_Riddles_leavesLost)) (x1 : Int32) (x2 : Int32) (x3 : Int32) {o : Option Value × PH} {Q : (Int32) → MI → Prop} (q0 : ∀ v I, Q v I → o = (some (.int v), HH I)) (I : MI) (r : Int32) (I1 : MI) (h : F_Riddles_goodTake x1 x2 x3 I = some (r, I1)) (hq : Q r I1) : At L X (d + 1) 182 0 [(106, .ref 195), (0, .int x1), (0, .int x2), (0, .int x3), (0, dV), (0, dV)] [] I o := by
  refine wf_ok z_Riddles_goodTake hcs ?_ ?_ _ _ _ _ _ ⟨rfl, trivial, trivial, trivial, trivial, trivial, trivial⟩ trivial (unm_refl _ _) ((congrFun (e_s_Riddles_goodTake_0 (L := L) (X := X) F_Riddles_leavesLost K_Riddles_goodTake_3 x1 x2 x3) I).trans h)
  · intro pc ls st I2 h1 h2 h3 h
    rcases mC_ok h with ⟨hb, h⟩ | ⟨_, h⟩
    · have e := Nat.eq_of_beq_eq_true hb
      subst e
      obtain ⟨hst, h⟩ := mN_ok h
      subst hst
      obtain ⟨a4, n4, h⟩ := gI_ok h
      obtain ⟨n5, h⟩ := gD_ok h
      refine at_leaf (ls2 := [(106, .ref 195), (0, .int x1), (0, .int x2), (0, .int x3), (0, .int a4), (0, dV)]) h3.1 ⟨Or.inr ⟨_, (h3.2 0 rfl).trans rfl⟩, Or.inr ⟨_, (h3.2 1 rfl).trans rfl⟩, Or.inr ⟨_, (h3.2 2 rfl).trans rfl⟩, Or.inr ⟨_, (h3.2 3 rfl).trans rfl⟩, Or.inr n4, Or.inl ⟨rfl, n5⟩, trivial⟩ ?_
      exact s_Riddles_goodTake_3 hcs x1 x2 x3 a4 q0 _ _ _ h hq
    cases h
  · intro v I2 _ h
    split at h
    · cases h; exact q0 _ _ hq
    · cases h
theorem w_Riddles_goodTake {d : Nat} (hcs : AllS L X d (cs_Riddles_goodTake F_Riddles_leavesLost)) : Snd L X (d + 1) 182 4 (W_Riddles_goodTake F_Riddles_goodTake) := by
  refine ⟨_, z_Riddles_goodTake, rfl, fun β args k I r hty hlen h => ?_⟩
  unfold W_Riddles_goodTake at h
  split at h
  · rename_i t0 a0 u1 a1 u2 a2 u3 a3
    obtain ⟨hb0, h⟩ := mB_ok h
    have e0 := Nat.eq_of_beq_eq_true hb0
    have g0 : okB 106 a0 = true := e0 ▸ hty.1
    have e20 := one_106 g0
    subst e20
    obtain ⟨v, I1, h1, h2⟩ := bn_some h
    refine ⟨gf_obj (c := 6) (by decide) g0, rfl, some (0, .int v), I1, trivial, ?_, h2⟩
    exact s_Riddles_goodTake_0 hcs a1 a2 a3  (Q := fun w I => w = v ∧ I = I1) (fun w I q => by obtain ⟨rfl, rfl⟩ := q; rfl) I v I1 h1 ⟨rfl, rfl⟩
  · cases h
theorem S_Riddles_goodTake {d : Nat} (hd : 3 ≤ d) : Snd L X d 182 4 (W_Riddles_goodTake F_Riddles_goodTake) := by
  obtain ⟨e, rfl⟩ : ∃ e, d = e + 1 := ⟨d - 1, by omega⟩
  exact w_Riddles_goodTake ⟨S_Riddles_leavesLost (by omega), trivial⟩
set_option maxRecDepth 100000 in
theorem z_A_game : pT[181]? = some (q_A_game, 4, 5, 1, 11) := rfl
def W_A_game (F : Int32 → Int32 → Int32 → M Int32) : CSem := fun _ args k => match args with
  | [(t0, .ref a0), (_, .int a1), (_, .int a2), (_, .int a3)] => mB (Nat.beq t0 111) <| bn (F a1 a2 a3) fun v => k (some (0, .int v))
  | _ => fl
def cs_A_game (f_A_within : Int32 → Int32 → Int32 → M Int32) (f_Riddles_goodTake : Int32 → Int32 → Int32 → M Int32) : List (Nat × Nat × CSem) := [(18, 3, W_A_within f_A_within), (182, 4, W_Riddles_goodTake f_Riddles_goodTake)]
def K_A_game_33 (x1 : Int32) (x2 : Int32) (x3 : Int32) : M (Int32) :=
  (if (0 : Int32) = 0 then
    rt (-1 : Int32)
  else
    (if x3 = (1 : Int32) then
      bn (F_Riddles_goodTake x1 x2 (1 : Int32)) fun v2 =>
      rt v2
    else
      bn (F_Riddles_goodTake x1 x2 (0 : Int32)) fun v1 =>
      rt v1))
set_option maxRecDepth 4000 in
theorem e_s_A_game_33 (f_A_within : Int32 → Int32 → Int32 → M Int32) (f_Riddles_goodTake : Int32 → Int32 → Int32 → M Int32) (x1 : Int32) (x2 : Int32) (x3 : Int32) : wf (β := Int32) L X q_A_game 1 (cs_A_game f_A_within f_Riddles_goodTake) [4] [33] (fun _ _ _ => fl) (fun v => match v with | some (_, .int x) => rt x | _ => fl) 40 33 [(111, .ref 0), (0, .int x1), (0, .int x2), (0, .int x3), (0, dV)] [] = ((if (0 : Int32) = 0 then
    rt (-1 : Int32)
  else
    (if x3 = (1 : Int32) then
      bn (f_Riddles_goodTake x1 x2 (1 : Int32)) fun v2 =>
      rt v2
    else
      bn (f_Riddles_goodTake x1 x2 (0 : Int32)) fun v1 =>
      rt v1))) := rfl
theorem s_A_game_33 {d : Nat} (hcs : AllS L X d (cs_A_game F_A_within F_Riddles_goodTake)) (x1 : Int32) (x2 : Int32) (x3 : Int32) {o : Option Value × PH} {Q : (Int32) → MI → Prop} (q0 : ∀ v I, Q v I → o = (some (.int v), HH I)) (I : MI) (r : Int32) (I1 : MI) (h : K_A_game_33 x1 x2 x3 I = some (r, I1)) (hq : Q r I1) : At L X (d + 1) 181 33 [(111, .ref 0), (0, .int x1), (0, .int x2), (0, .int x3), (0, dV)] [] I o := by
  refine wf_ok z_A_game hcs ?_ ?_ _ _ _ _ _ ⟨rfl, trivial, trivial, trivial, trivial, trivial⟩ trivial (unm_refl _ _) ((congrFun (e_s_A_game_33 (L := L) (X := X) F_A_within F_Riddles_goodTake x1 x2 x3) I).trans h)
  · intro pc ls st I2 h1 h2 h3 h
    cases h
  · intro v I2 _ h
    split at h
    · cases h; exact q0 _ _ hq
    · cases h
def F_A_game (x1 : Int32) (x2 : Int32) (x3 : Int32) : M (Int32) :=
  bn (F_A_within x1 (0 : Int32) (40 : Int32)) fun v1 =>
  (if v1 = 0 then
    K_A_game_33 x1 x2 x3
  else
    bn (F_A_within x2 (0 : Int32) (40 : Int32)) fun v2 =>
    (if v2 = 0 then
      K_A_game_33 x1 x2 x3
    else
      bn (F_A_within x3 (0 : Int32) (1 : Int32)) fun v3 =>
      (if v3 = 0 then
        K_A_game_33 x1 x2 x3
      else
        (if (1 : Int32) = 0 then
          rt (-1 : Int32)
        else
          (if x3 = (1 : Int32) then
            bn (F_Riddles_goodTake x1 x2 (1 : Int32)) fun v5 =>
            rt v5
          else
            bn (F_Riddles_goodTake x1 x2 (0 : Int32)) fun v4 =>
            rt v4)))))
set_option maxRecDepth 4000 in
theorem e_s_A_game_0 (f_A_within : Int32 → Int32 → Int32 → M Int32) (f_Riddles_goodTake : Int32 → Int32 → Int32 → M Int32) (k_33 : Int32 → Int32 → Int32 → M (Int32)) (x1 : Int32) (x2 : Int32) (x3 : Int32) : wf (β := Int32) L X q_A_game 1 (cs_A_game f_A_within f_Riddles_goodTake) [4] [33] (fun pc ls st => mC (Nat.beq pc 33) (mN st <| gD ls 4 <| k_33 x1 x2 x3) (fl)) (fun v => match v with | some (_, .int x) => rt x | _ => fl) 40 0 [(111, .ref 0), (0, .int x1), (0, .int x2), (0, .int x3), (0, dV)] [] = (bn (f_A_within x1 (0 : Int32) (40 : Int32)) fun v1 =>
  (if v1 = 0 then
    k_33 x1 x2 x3
  else
    bn (f_A_within x2 (0 : Int32) (40 : Int32)) fun v2 =>
    (if v2 = 0 then
      k_33 x1 x2 x3
    else
      bn (f_A_within x3 (0 : Int32) (1 : Int32)) fun v3 =>
      (if v3 = 0 then
        k_33 x1 x2 x3
      else
        (if (1 : Int32) = 0 then
          rt (-1 : Int32)
        else
          (if x3 = (1 : Int32) then
            bn (f_Riddles_goodTake x1 x2 (1 : Int32)) fun v5 =>
            rt v5
          else
            bn (f_Riddles_goodTake x1 x2 (0 : Int32)) fun v4 =>
            rt v4)))))) := rfl
theorem s_A_game_0 {d : Nat} (hcs : AllS L X d (cs_A_game F_A_within F_Riddles_goodTake)) (x1 : Int32) (x2 : Int32) (x3 : Int32) {o : Option Value × PH} {Q : (Int32) → MI → Prop} (q0 : ∀ v I, Q v I → o = (some (.int v), HH I)) (I : MI) (r : Int32) (I1 : MI) (h : F_A_game x1 x2 x3 I = some (r, I1)) (hq : Q r I1) : At L X (d + 1) 181 0 [(111, .ref 0), (0, .int x1), (0, .int x2), (0, .int x3), (0, dV)] [] I o := by
  refine wf_ok z_A_game hcs ?_ ?_ _ _ _ _ _ ⟨rfl, trivial, trivial, trivial, trivial, trivial⟩ trivial (unm_refl _ _) ((congrFun (e_s_A_game_0 (L := L) (X := X) F_A_within F_Riddles_goodTake K_A_game_33 x1 x2 x3) I).trans h)
  · intro pc ls st I2 h1 h2 h3 h
    rcases mC_ok h with ⟨hb, h⟩ | ⟨_, h⟩
    · have e := Nat.eq_of_beq_eq_true hb
      subst e
      obtain ⟨hst, h⟩ := mN_ok h
      subst hst
      obtain ⟨n4, h⟩ := gD_ok h
      refine at_leaf (ls2 := [(111, .ref 0), (0, .int x1), (0, .int x2), (0, .int x3), (0, dV)]) h3.1 ⟨Or.inr ⟨_, (h3.2 0 rfl).trans rfl⟩, Or.inr ⟨_, (h3.2 1 rfl).trans rfl⟩, Or.inr ⟨_, (h3.2 2 rfl).trans rfl⟩, Or.inr ⟨_, (h3.2 3 rfl).trans rfl⟩, Or.inl ⟨rfl, n4⟩, trivial⟩ ?_
      exact s_A_game_33 hcs x1 x2 x3 q0 _ _ _ h hq
    cases h
  · intro v I2 _ h
    split at h
    · cases h; exact q0 _ _ hq
    · cases h
theorem w_A_game {d : Nat} (hcs : AllS L X d (cs_A_game F_A_within F_Riddles_goodTake)) : Snd L X (d + 1) 181 4 (W_A_game F_A_game) := by
  refine ⟨_, z_A_game, rfl, fun β args k I r hty hlen h => ?_⟩
  unfold W_A_game at h
  split at h
  · rename_i t0 a0 u1 a1 u2 a2 u3 a3
    obtain ⟨hb0, h⟩ := mB_ok h
    have e0 := Nat.eq_of_beq_eq_true hb0
    have g0 : okB 111 a0 = true := e0 ▸ hty.1
    have e20 := one_111 g0
    subst e20
    obtain ⟨v, I1, h1, h2⟩ := bn_some h
    refine ⟨gf_obj (c := 11) (by decide) g0, rfl, some (0, .int v), I1, trivial, ?_, h2⟩
    exact s_A_game_0 hcs a1 a2 a3  (Q := fun w I => w = v ∧ I = I1) (fun w I q => by obtain ⟨rfl, rfl⟩ := q; rfl) I v I1 h1 ⟨rfl, rfl⟩
  · cases h
theorem S_A_game {d : Nat} (hd : 4 ≤ d) : Snd L X d 181 4 (W_A_game F_A_game) := by
  obtain ⟨e, rfl⟩ : ∃ e, d = e + 1 := ⟨d - 1, by omega⟩
  exact w_A_game ⟨S_A_within (by omega), S_Riddles_goodTake (by omega), trivial⟩
set_option maxRecDepth 100000 in
theorem z_World_draw : pT[56]? = some (q_World_draw, 2, 2, 1, 10) := rfl
def W_World_draw (F : Nat → Int32 → M Int32) : CSem := fun _ args k => match args with
  | [(t0, .ref a0), (_, .int a1)] => mB (Nat.beq t0 110) <| bn (F a0 a1) fun v => k (some (0, .int v))
  | _ => fl
def cs_World_draw : List (Nat × Nat × CSem) := []
def F_World_draw (r0 : Nat) (x1 : Int32) : M (Int32) :=
  bn (rd r0 0) fun v1 =>
  bn (wr r0 0 ((v1 * (1664525 : Int32)) + (1013904223 : Int32))) fun _ =>
  (if 0 < x1 then
    bn (rd r0 0) fun v2 =>
    dvI x1 <|
    rt ((ush v2 (8 : Int32)) - (ush v2 (8 : Int32)) / x1 * x1)
  else
    rt (0 : Int32))
set_option maxRecDepth 4000 in
theorem e_s_World_draw_0 (r0 : Nat) (x1 : Int32) : wf (β := Int32) L X q_World_draw 1 cs_World_draw [] [] (fun _ _ _ => fl) (fun v => match v with | some (_, .int x) => rt x | _ => fl) 24 0 [(110, .ref r0), (0, .int x1)] [] = (bn (rd r0 0) fun v1 =>
  bn (wr r0 0 ((v1 * (1664525 : Int32)) + (1013904223 : Int32))) fun _ =>
  (if 0 < x1 then
    bn (rd r0 0) fun v2 =>
    dvI x1 <|
    rt ((ush v2 (8 : Int32)) - (ush v2 (8 : Int32)) / x1 * x1)
  else
    rt (0 : Int32))) := rfl
theorem s_World_draw_0 {d : Nat} (hcs : AllS L X d cs_World_draw) (r0 : Nat) (x1 : Int32) (t0 : okB 110 r0 = true) {o : Option Value × PH} {Q : (Int32) → MI → Prop} (q0 : ∀ v I, Q v I → o = (some (.int v), HH I)) (I : MI) (r : Int32) (I1 : MI) (h : F_World_draw r0 x1 I = some (r, I1)) (hq : Q r I1) : At L X (d + 1) 56 0 [(110, .ref r0), (0, .int x1)] [] I o := by
  refine wf_ok z_World_draw hcs ?_ ?_ _ _ _ _ _ ⟨t0, trivial, trivial⟩ trivial (unm_refl _ _) ((congrFun (e_s_World_draw_0 (L := L) (X := X) r0 x1) I).trans h)
  · intro pc ls st I2 h1 h2 h3 h
    cases h
  · intro v I2 _ h
    split at h
    · cases h; exact q0 _ _ hq
    · cases h
theorem w_World_draw {d : Nat} (hcs : AllS L X d cs_World_draw) : Snd L X (d + 1) 56 2 (W_World_draw F_World_draw) := by
  refine ⟨_, z_World_draw, rfl, fun β args k I r hty hlen h => ?_⟩
  unfold W_World_draw at h
  split at h
  · rename_i t0 a0 u1 a1
    obtain ⟨hb0, h⟩ := mB_ok h
    have e0 := Nat.eq_of_beq_eq_true hb0
    have g0 : okB 110 a0 = true := e0 ▸ hty.1
    obtain ⟨v, I1, h1, h2⟩ := bn_some h
    refine ⟨gf_obj (c := 10) (by decide) g0, rfl, some (0, .int v), I1, trivial, ?_, h2⟩
    exact s_World_draw_0 hcs a0 a1 g0 (Q := fun w I => w = v ∧ I = I1) (fun w I q => by obtain ⟨rfl, rfl⟩ := q; rfl) I v I1 h1 ⟨rfl, rfl⟩
  · cases h
theorem S_World_draw {d : Nat} (hd : 1 ≤ d) : Snd L X d 56 2 (W_World_draw F_World_draw) := by
  obtain ⟨e, rfl⟩ : ∃ e, d = e + 1 := ⟨d - 1, by omega⟩
  exact w_World_draw trivial
set_option maxRecDepth 100000 in
theorem z_Hours_isSeen : pT[55]? = some (q_Hours_isSeen, 2, 2, 2, 1) := rfl
def W_Hours_isSeen (F : Nat → Int32 → M Int32) : CSem := fun _ args k => match args with
  | [(t0, .ref a0), (_, .int a1)] => mB (Nat.beq t0 101) <| bn (F a0 a1) fun v => k (some (0, .int v))
  | _ => fl
def cs_Hours_isSeen (f_World_draw : Nat → Int32 → M Int32) : List (Nat × Nat × CSem) := [(56, 2, W_World_draw f_World_draw)]
def F_Hours_isSeen (r0 : Nat) (x1 : Int32) : M (Int32) :=
  bn (rd r0 2) fun v1 =>
  (if v1 = 0 then
    (if 0 < x1 then
      bn (F_World_draw (hw r0) (1000 : Int32)) fun v2 =>
      (if v2 < x1 then
        bn (gdZ (1 : Int32)) fun _ => rt (1 : Int32)
      else
        bn (gdZ (0 : Int32)) fun _ => rt (0 : Int32))
    else
      bn (gdZ (0 : Int32)) fun _ => rt (0 : Int32))
  else
    (if x1 < (500 : Int32) then
      bn (gdZ (0 : Int32)) fun _ => rt (0 : Int32)
    else
      bn (gdZ (1 : Int32)) fun _ => rt (1 : Int32)))
set_option maxRecDepth 4000 in
theorem e_s_Hours_isSeen_0 (f_World_draw : Nat → Int32 → M Int32) (r0 : Nat) (x1 : Int32) : wf (β := Int32) L X q_Hours_isSeen 2 (cs_Hours_isSeen f_World_draw) [] [] (fun _ _ _ => fl) (fun v => match v with | some (_, .int x) => rt x | _ => fl) 27 0 [(101, .ref r0), (0, .int x1)] [] = (bn (rd r0 2) fun v1 =>
  (if v1 = 0 then
    (if 0 < x1 then
      bn (f_World_draw (hw r0) (1000 : Int32)) fun v2 =>
      (if v2 < x1 then
        bn (gdZ (1 : Int32)) fun _ => rt (1 : Int32)
      else
        bn (gdZ (0 : Int32)) fun _ => rt (0 : Int32))
    else
      bn (gdZ (0 : Int32)) fun _ => rt (0 : Int32))
  else
    (if x1 < (500 : Int32) then
      bn (gdZ (0 : Int32)) fun _ => rt (0 : Int32)
    else
      bn (gdZ (1 : Int32)) fun _ => rt (1 : Int32)))) := rfl
theorem s_Hours_isSeen_0 {d : Nat} (hcs : AllS L X d (cs_Hours_isSeen F_World_draw)) (r0 : Nat) (x1 : Int32) (t0 : okB 101 r0 = true) {o : Option Value × PH} {Q : (Int32) → MI → Prop} (q0 : ∀ v I, Q v I → o = (some (.int v), HH I)) (I : MI) (r : Int32) (I1 : MI) (h : F_Hours_isSeen r0 x1 I = some (r, I1)) (hq : Q r I1) : At L X (d + 1) 55 0 [(101, .ref r0), (0, .int x1)] [] I o := by
  refine wf_ok z_Hours_isSeen hcs ?_ ?_ _ _ _ _ _ ⟨t0, trivial, trivial⟩ trivial (unm_refl _ _) ((congrFun (e_s_Hours_isSeen_0 (L := L) (X := X) F_World_draw r0 x1) I).trans h)
  · intro pc ls st I2 h1 h2 h3 h
    cases h
  · intro v I2 _ h
    split at h
    · cases h; exact q0 _ _ hq
    · cases h
theorem w_Hours_isSeen {d : Nat} (hcs : AllS L X d (cs_Hours_isSeen F_World_draw)) : Snd L X (d + 1) 55 2 (W_Hours_isSeen F_Hours_isSeen) := by
  refine ⟨_, z_Hours_isSeen, rfl, fun β args k I r hty hlen h => ?_⟩
  unfold W_Hours_isSeen at h
  split at h
  · rename_i t0 a0 u1 a1
    obtain ⟨hb0, h⟩ := mB_ok h
    have e0 := Nat.eq_of_beq_eq_true hb0
    have g0 : okB 101 a0 = true := e0 ▸ hty.1
    obtain ⟨v, I1, h1, h2⟩ := bn_some h
    refine ⟨gf_obj (c := 1) (by decide) g0, rfl, some (0, .int v), I1, trivial, ?_, h2⟩
    exact s_Hours_isSeen_0 hcs a0 a1 g0 (Q := fun w I => w = v ∧ I = I1) (fun w I q => by obtain ⟨rfl, rfl⟩ := q; rfl) I v I1 h1 ⟨rfl, rfl⟩
  · cases h
theorem S_Hours_isSeen {d : Nat} (hd : 2 ≤ d) : Snd L X d 55 2 (W_Hours_isSeen F_Hours_isSeen) := by
  obtain ⟨e, rfl⟩ : ∃ e, d = e + 1 := ⟨d - 1, by omega⟩
  exact w_Hours_isSeen ⟨S_World_draw (by omega), trivial⟩
set_option maxRecDepth 100000 in
theorem z_Hours_note : pT[45]? = some (q_Hours_note, 4, 4, 0, 1) := rfl
def W_Hours_note (F : Nat → Int32 → Int32 → Int32 → M Unit) : CSem := fun _ args k => match args with
  | [(t0, .ref a0), (_, .int a1), (_, .int a2), (_, .int a3)] => mB (Nat.beq t0 101) <| bn (F a0 a1 a2 a3) fun _ => k none
  | _ => fl
def cs_Hours_note (f_Book_write : Nat → Nat → Int32 → Int32 → Int32 → M Unit) : List (Nat × Nat × CSem) := [(32, 5, W_Book_write f_Book_write)]
def F_Hours_note (r0 : Nat) (x1 : Int32) (x2 : Int32) (x3 : Int32) : M (Unit) :=
  bn (rd r0 2) fun v1 =>
  (if v1 = 0 then
    bn (F_Book_write 13 (hw r0) x1 x2 x3) fun _ =>
    rt ()
  else
    rt ())
set_option maxRecDepth 4000 in
theorem e_s_Hours_note_0 (f_Book_write : Nat → Nat → Int32 → Int32 → Int32 → M Unit) (r0 : Nat) (x1 : Int32) (x2 : Int32) (x3 : Int32) : wf (β := Unit) L X q_Hours_note 0 (cs_Hours_note f_Book_write) [] [] (fun _ _ _ => fl) (fun v => match v with | none => rt () | _ => fl) 18 0 [(101, .ref r0), (0, .int x1), (0, .int x2), (0, .int x3)] [] = (bn (rd r0 2) fun v1 =>
  (if v1 = 0 then
    bn (f_Book_write 13 (hw r0) x1 x2 x3) fun _ =>
    rt ()
  else
    rt ())) := rfl
theorem s_Hours_note_0 {d : Nat} (hcs : AllS L X d (cs_Hours_note F_Book_write)) (r0 : Nat) (x1 : Int32) (x2 : Int32) (x3 : Int32) (t0 : okB 101 r0 = true) {o : Option Value × PH} {Q : (Unit) → MI → Prop} (q0 : ∀ v I, Q v I → o = (none, HH I)) (I : MI) (r : Unit) (I1 : MI) (h : F_Hours_note r0 x1 x2 x3 I = some (r, I1)) (hq : Q r I1) : At L X (d + 1) 45 0 [(101, .ref r0), (0, .int x1), (0, .int x2), (0, .int x3)] [] I o := by
  refine wf_ok z_Hours_note hcs ?_ ?_ _ _ _ _ _ ⟨t0, trivial, trivial, trivial, trivial⟩ trivial (unm_refl _ _) ((congrFun (e_s_Hours_note_0 (L := L) (X := X) F_Book_write r0 x1 x2 x3) I).trans h)
  · intro pc ls st I2 h1 h2 h3 h
    cases h
  · intro v I2 _ h
    split at h
    · cases h; exact q0 _ _ hq
    · cases h
theorem w_Hours_note {d : Nat} (hcs : AllS L X d (cs_Hours_note F_Book_write)) : Snd L X (d + 1) 45 4 (W_Hours_note F_Hours_note) := by
  refine ⟨_, z_Hours_note, rfl, fun β args k I r hty hlen h => ?_⟩
  unfold W_Hours_note at h
  split at h
  · rename_i t0 a0 u1 a1 u2 a2 u3 a3
    obtain ⟨hb0, h⟩ := mB_ok h
    have e0 := Nat.eq_of_beq_eq_true hb0
    have g0 : okB 101 a0 = true := e0 ▸ hty.1
    obtain ⟨v, I1, h1, h2⟩ := bn_some h
    refine ⟨gf_obj (c := 1) (by decide) g0, rfl, none, I1, trivial, ?_, h2⟩
    exact s_Hours_note_0 hcs a0 a1 a2 a3 g0 (Q := fun w I => w = v ∧ I = I1) (fun w I q => by obtain ⟨rfl, rfl⟩ := q; rfl) I v I1 h1 ⟨rfl, rfl⟩
  · cases h
theorem S_Hours_note {d : Nat} (hd : 2 ≤ d) : Snd L X d 45 4 (W_Hours_note F_Hours_note) := by
  obtain ⟨e, rfl⟩ : ∃ e, d = e + 1 := ⟨d - 1, by omega⟩
  exact w_Hours_note ⟨S_Book_write (by omega), trivial⟩
end
