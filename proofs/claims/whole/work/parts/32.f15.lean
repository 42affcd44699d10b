/-! methods (written by wip/tools/gen_f.py) -/
section
variable {L : Nat} {X : Nat → Int32}
set_option maxRecDepth 100000 in
theorem z_R_canCome : pT[284]? = some (q_R_canCome, 3, 4, 2, 12) := rfl
def W_R_canCome (F : Int32 → Int32 → M Int32) : CSem := fun _ args k => match args with
  | [(t0, .ref a0), (_, .int a1), (_, .int a2)] => mB (Nat.beq t0 112) <| bn (F a1 a2) fun v => k (some (0, .int v))
  | _ => fl
def cs_R_canCome (f_R_wayOf : Int32 → Int32 → M Int32) : List (Nat × Nat × CSem) := [(285, 3, W_R_wayOf f_R_wayOf)]
def K_R_canCome_34 (x1 : Int32) (x2 : Int32) (x3 : Int32) : M (Int32) :=
  bn (ld 10 232 x1) fun v1 =>
  bn (ld 10 232 x2) fun v2 =>
  bn (F_R_wayOf v1 v2) fun v3 =>
  (if x3 < v3 then
    bn (gdZ (0 : Int32)) fun _ => rt (0 : Int32)
  else
    bn (gdZ (1 : Int32)) fun _ => rt (1 : Int32))
set_option maxRecDepth 4000 in
theorem e_s_R_canCome_34 (f_R_wayOf : Int32 → Int32 → M Int32) (x1 : Int32) (x2 : Int32) (x3 : Int32) : wf (β := Int32) L X q_R_canCome 2 (cs_R_canCome f_R_wayOf) [] [34] (fun _ _ _ => fl) (fun v => match v with | some (_, .int x) => rt x | _ => fl) 43 34 [(112, .ref 207), (0, .int x1), (0, .int x2), (0, .int x3)] [] = (bn (ld 10 232 x1) fun v1 =>
  bn (ld 10 232 x2) fun v2 =>
  bn (f_R_wayOf v1 v2) fun v3 =>
  (if x3 < v3 then
    bn (gdZ (0 : Int32)) fun _ => rt (0 : Int32)
  else
    bn (gdZ (1 : Int32)) fun _ => rt (1 : Int32))) := rfl
theorem s_R_canCome_34 {d : Nat} (hcs : AllS L X d (cs_R_canCome F_R_wayOf)) (x1 : Int32) (x2 : Int32) (x3 : Int32) {o : Option Value × PH} {Q : (Int32) → MI → Prop} (q0 : ∀ v I, Q v I → o = (some (.int v), HH I)) (I : MI) (r : Int32) (I1 : MI) (h : K_R_canCome_34 x1 x2 x3 I = some (r, I1)) (hq : Q r I1) : At L X (d + 1) 284 34 [(112, .ref 207), (0, .int x1), (0, .int x2), (0, .int x3)] [] I o := by
  refine wf_ok z_R_canCome hcs ?_ ?_ _ _ _ _ _ ⟨rfl, trivial, trivial, trivial, trivial⟩ trivial (unm_refl _ _) ((congrFun (e_s_R_canCome_34 (L := L) (X := X) F_R_wayOf x1 x2 x3) I).trans h)
  · intro pc ls st I2 h1 h2 h3 h
    cases h
  · intro v I2 _ h
    split at h
    · cases h; exact q0 _ _ hq
    · cases h
def F_R_canCome (x1 : Int32) (x2 : Int32) : M (Int32) :=
  bn (ld 10 231 x2) fun v1 =>
  bn (ld 10 231 x1) fun v2 =>
  (if x1 = x2 then
    bn (gdZ (0 : Int32)) fun _ => rt (0 : Int32)
  else
    (if (v1 - v2) < 0 then
      bn (gdZ (0 : Int32)) fun _ => rt (0 : Int32)
    else
      (if (v1 - v2) = 0 then
        (if x2 < x1 then
          bn (gdZ (0 : Int32)) fun _ => rt (0 : Int32)
        else
          K_R_canCome_34 x1 x2 (v1 - v2))
      else
        K_R_canCome_34 x1 x2 (v1 - v2))))
set_option maxRecDepth 4000 in
theorem e_s_R_canCome_0 (f_R_wayOf : Int32 → Int32 → M Int32) (k_34 : Int32 → Int32 → Int32 → M (Int32)) (x1 : Int32) (x2 : Int32) : wf (β := Int32) L X q_R_canCome 2 (cs_R_canCome f_R_wayOf) [3] [34] (fun pc ls st => mC (Nat.beq pc 34) (mN st <| gI ls 3 fun a3 => k_34 x1 x2 a3) (fl)) (fun v => match v with | some (_, .int x) => rt x | _ => fl) 43 0 [(112, .ref 207), (0, .int x1), (0, .int x2), (0, dV)] [] = (bn (ld 10 231 x2) fun v1 =>
  bn (ld 10 231 x1) fun v2 =>
  (if x1 = x2 then
    bn (gdZ (0 : Int32)) fun _ => rt (0 : Int32)
  else
    (if (v1 - v2) < 0 then
      bn (gdZ (0 : Int32)) fun _ => rt (0 : Int32)
    else
      (if (v1 - v2) = 0 then
        (if x2 < x1 then
          bn (gdZ (0 : Int32)) fun _ => rt (0 : Int32)
        else
          k_34 x1 x2 (v1 - v2))
      else
        k_34 x1 x2 (v1 - v2))))) := rfl
theorem s_R_canCome_0 {d : Nat} (hcs : AllS L X d (cs_R_canCome F_R_wayOf)) (x1 : Int32) (x2 : Int32) {o : Option Value × PH} {Q : (Int32) → MI → Prop} (q0 : ∀ v I, Q v I → o = (some (.int v), HH I)) (I : MI) (r : Int32) (I1 : MI) (h : F_R_canCome x1 x2 I = some (r, I1)) (hq : Q r I1) : At L X (d + 1) 284 0 [(112, .ref 207), (0, .int x1), (0, .int x2), (0, dV)] [] I o := by
  refine wf_ok z_R_canCome hcs ?_ ?_ _ _ _ _ _ ⟨rfl, trivial, trivial, trivial, trivial⟩ trivial (unm_refl _ _) ((congrFun (e_s_R_canCome_0 (L := L) (X := X) F_R_wayOf K_R_canCome_34 x1 x2) I).trans h)
  · intro pc ls st I2 h1 h2 h3 h
    rcases mC_ok h with ⟨hb, h⟩ | ⟨_, h⟩
    · have e := Nat.eq_of_beq_eq_true hb
      subst e
      obtain ⟨hst, h⟩ := mN_ok h
      subst hst
      obtain ⟨a3, n3, h⟩ := gI_ok h
      refine at_leaf (ls2 := [(112, .ref 207), (0, .int x1), (0, .int x2), (0, .int a3)]) h3.1 ⟨Or.inr ⟨_, (h3.2 0 rfl).trans rfl⟩, Or.inr ⟨_, (h3.2 1 rfl).trans rfl⟩, Or.inr ⟨_, (h3.2 2 rfl).trans rfl⟩, Or.inr n3, trivial⟩ ?_
      exact s_R_canCome_34 hcs x1 x2 a3 q0 _ _ _ h hq
    cases h
  · intro v I2 _ h
    split at h
    · cases h; exact q0 _ _ hq
    · cases h
theorem w_R_canCome {d : Nat} (hcs : AllS L X d (cs_R_canCome F_R_wayOf)) : Snd L X (d + 1) 284 3 (W_R_canCome F_R_canCome) := by
  refine ⟨_, z_R_canCome, rfl, fun β args k I r hty hlen h => ?_⟩
  unfold W_R_canCome at h
  split at h
  · rename_i t0 a0 u1 a1 u2 a2
    obtain ⟨hb0, h⟩ := mB_ok h
    have e0 := Nat.eq_of_beq_eq_true hb0
    have g0 : okB 112 a0 = true := e0 ▸ hty.1
    have e20 := one_112 g0
    subst e20
    obtain ⟨v, I1, h1, h2⟩ := bn_some h
    refine ⟨gf_obj (c := 12) (by decide) g0, rfl, some (0, .int v), I1, trivial, ?_, h2⟩
    exact s_R_canCome_0 hcs a1 a2  (Q := fun w I => w = v ∧ I = I1) (fun w I q => by obtain ⟨rfl, rfl⟩ := q; rfl) I v I1 h1 ⟨rfl, rfl⟩
  · cases h
theorem S_R_canCome {d : Nat} (hd : 3 ≤ d) : Snd L X d 284 3 (W_R_canCome F_R_canCome) := by
  obtain ⟨e, rfl⟩ : ∃ e, d = e + 1 := ⟨d - 1, by omega⟩
  exact w_R_canCome ⟨S_R_wayOf (by omega), trivial⟩
set_option maxRecDepth 100000 in
theorem z_R_fewestPersons : pT[283]? = some (q_R_fewestPersons, 1, 5, 1, 12) := rfl
def W_R_fewestPersons (F : M Int32) : CSem := fun _ args k => match args with
  | [(t0, .ref a0)] => mB (Nat.beq t0 112) <| bn (F) fun v => k (some (0, .int v))
  | _ => fl
def cs_R_fewestPersons (f_R_canCome : Int32 → Int32 → M Int32) (f_R_greater : Int32 → Int32 → M Int32) (f_R_has : Int32 → Int32 → M Int32) : List (Nat × Nat × CSem) := [(284, 3, W_R_canCome f_R_canCome), (269, 3, W_R_greater f_R_greater), (286, 3, W_R_has f_R_has)]
def B_R_fewestPersons_9 (x1 : Int32) (y : Int32) : M ((Int32) ⊕ ((Unit))) :=
  (if y < x1 then
    (if y = 0 then
      bn (sr 1024 233 y (0 : Int32)) fun _ =>
      rt (.inl (y + (1 : Int32)))
    else
      bn (sr 1024 233 y (-100000000 : Int32)) fun _ =>
      rt (.inl (y + (1 : Int32))))
  else
    rt (.inr ()))
set_option maxRecDepth 4000 in
theorem e_b_R_fewestPersons_9 (f_R_canCome : Int32 → Int32 → M Int32) (f_R_greater : Int32 → Int32 → M Int32) (f_R_has : Int32 → Int32 → M Int32) (x1 : Int32) (y : Int32) : wf (β := (Int32) ⊕ ((Unit))) L X q_R_fewestPersons 1 (cs_R_fewestPersons f_R_canCome f_R_greater f_R_has) [2] [9, 37, 39, 49, 72, 74, 97, 154, 160, 162, 185, 191, 195] (fun pc ls st => mC (Nat.beq pc 9) (mN st <| gI ls 2 fun a2 => gD ls 3 <| gD ls 4 <| rt (.inl a2)) (mC (Nat.beq pc 37) (mN st <| gD ls 2 <| gD ls 3 <| gD ls 4 <| rt (.inr ())) (fl))) (fun _ => fl) 136 9 [(112, .ref 207), (0, .int x1), (0, .int y), (0, dV), (0, dV)] [] = ((if y < x1 then
    (if y = 0 then
      bn (sr 1024 233 y (0 : Int32)) fun _ =>
      rt (.inl (y + (1 : Int32)))
    else
      bn (sr 1024 233 y (-100000000 : Int32)) fun _ =>
      rt (.inl (y + (1 : Int32))))
  else
    rt (.inr ()))) := rfl
theorem b_R_fewestPersons_9 {d : Nat} (hcs : AllS L X d (cs_R_fewestPersons F_R_canCome F_R_greater F_R_has)) (x1 : Int32) {o : Option Value × PH} {Q : ((Int32) ⊕ ((Unit))) → MI → Prop} (qb : ∀ y I, Q (.inl y) I → At L X (d + 1) 283 9 [(112, .ref 207), (0, .int x1), (0, .int y), (0, dV), (0, dV)] [] I o) (qe37 : ∀ y I, Q (.inr y) I → At L X (d + 1) 283 37 [(112, .ref 207), (0, .int x1), (0, dV), (0, dV), (0, dV)] [] I o) (y : Int32) (I : MI) (r : (Int32) ⊕ ((Unit))) (I1 : MI) (h : B_R_fewestPersons_9 x1 y I = some (r, I1)) (hq : Q r I1) : At L X (d + 1) 283 9 [(112, .ref 207), (0, .int x1), (0, .int y), (0, dV), (0, dV)] [] I o := by
  refine wf_ok z_R_fewestPersons hcs ?_ ?_ _ _ _ _ _ ⟨rfl, trivial, trivial, trivial, trivial, trivial⟩ trivial (unm_refl _ _) ((congrFun (e_b_R_fewestPersons_9 (L := L) (X := X) F_R_canCome F_R_greater F_R_has x1 y) I).trans h)
  · intro pc ls st I2 h1 h2 h3 h
    rcases mC_ok h with ⟨hb, h⟩ | ⟨_, h⟩
    · have e := Nat.eq_of_beq_eq_true hb
      subst e
      obtain ⟨hst, h⟩ := mN_ok h
      subst hst
      obtain ⟨a2, n2, h⟩ := gI_ok h
      obtain ⟨n3, h⟩ := gD_ok h
      obtain ⟨n4, h⟩ := gD_ok h
      refine at_leaf (ls2 := [(112, .ref 207), (0, .int x1), (0, .int a2), (0, dV), (0, dV)]) h3.1 ⟨Or.inr ⟨_, (h3.2 0 rfl).trans rfl⟩, Or.inr ⟨_, (h3.2 1 rfl).trans rfl⟩, Or.inr n2, Or.inl ⟨rfl, n3⟩, Or.inl ⟨rfl, n4⟩, trivial⟩ ?_
      cases h; exact qb _ _ hq
    rcases mC_ok h with ⟨hb, h⟩ | ⟨_, h⟩
    · have e := Nat.eq_of_beq_eq_true hb
      subst e
      obtain ⟨hst, h⟩ := mN_ok h
      subst hst
      obtain ⟨n2, h⟩ := gD_ok h
      obtain ⟨n3, h⟩ := gD_ok h
      obtain ⟨n4, h⟩ := gD_ok h
      refine at_leaf (ls2 := [(112, .ref 207), (0, .int x1), (0, dV), (0, dV), (0, dV)]) h3.1 ⟨Or.inr ⟨_, (h3.2 0 rfl).trans rfl⟩, Or.inr ⟨_, (h3.2 1 rfl).trans rfl⟩, Or.inl ⟨rfl, n2⟩, Or.inl ⟨rfl, n3⟩, Or.inl ⟨rfl, n4⟩, trivial⟩ ?_
      cases h; exact qe37 _ _ hq
    cases h
  · intro v I2 _ h
    cases h
def B_R_fewestPersons_49 (x1 : Int32) (x2 : Int32) (y : Int32) : M ((Int32) ⊕ ((Unit))) :=
  (if y < x1 then
    bn (ld 1024 233 y) fun v1 =>
    bn (sr 1024 234 y v1) fun _ =>
    rt (.inl (y + (1 : Int32)))
  else
    rt (.inr ()))
set_option maxRecDepth 4000 in
theorem e_b_R_fewestPersons_49 (f_R_canCome : Int32 → Int32 → M Int32) (f_R_greater : Int32 → Int32 → M Int32) (f_R_has : Int32 → Int32 → M Int32) (x1 : Int32) (x2 : Int32) (y : Int32) : wf (β := (Int32) ⊕ ((Unit))) L X q_R_fewestPersons 1 (cs_R_fewestPersons f_R_canCome f_R_greater f_R_has) [3] [9, 37, 39, 49, 72, 74, 97, 154, 160, 162, 185, 191, 195] (fun pc ls st => mC (Nat.beq pc 49) (mN st <| gI ls 3 fun a3 => gD ls 4 <| rt (.inl a3)) (mC (Nat.beq pc 72) (mN st <| gD ls 3 <| gD ls 4 <| rt (.inr ())) (fl))) (fun _ => fl) 136 49 [(112, .ref 207), (0, .int x1), (0, .int x2), (0, .int y), (0, dV)] [] = ((if y < x1 then
    bn (ld 1024 233 y) fun v1 =>
    bn (sr 1024 234 y v1) fun _ =>
    rt (.inl (y + (1 : Int32)))
  else
    rt (.inr ()))) := rfl
theorem b_R_fewestPersons_49 {d : Nat} (hcs : AllS L X d (cs_R_fewestPersons F_R_canCome F_R_greater F_R_has)) (x1 : Int32) (x2 : Int32) {o : Option Value × PH} {Q : ((Int32) ⊕ ((Unit))) → MI → Prop} (qb : ∀ y I, Q (.inl y) I → At L X (d + 1) 283 49 [(112, .ref 207), (0, .int x1), (0, .int x2), (0, .int y), (0, dV)] [] I o) (qe72 : ∀ y I, Q (.inr y) I → At L X (d + 1) 283 72 [(112, .ref 207), (0, .int x1), (0, .int x2), (0, dV), (0, dV)] [] I o) (y : Int32) (I : MI) (r : (Int32) ⊕ ((Unit))) (I1 : MI) (h : B_R_fewestPersons_49 x1 x2 y I = some (r, I1)) (hq : Q r I1) : At L X (d + 1) 283 49 [(112, .ref 207), (0, .int x1), (0, .int x2), (0, .int y), (0, dV)] [] I o := by
  refine wf_ok z_R_fewestPersons hcs ?_ ?_ _ _ _ _ _ ⟨rfl, trivial, trivial, trivial, trivial, trivial⟩ trivial (unm_refl _ _) ((congrFun (e_b_R_fewestPersons_49 (L := L) (X := X) F_R_canCome F_R_greater F_R_has x1 x2 y) I).trans h)
  · intro pc ls st I2 h1 h2 h3 h
    rcases mC_ok h with ⟨hb, h⟩ | ⟨_, h⟩
    · have e := Nat.eq_of_beq_eq_true hb
      subst e
      obtain ⟨hst, h⟩ := mN_ok h
      subst hst
      obtain ⟨a3, n3, h⟩ := gI_ok h
      obtain ⟨n4, h⟩ := gD_ok h
      refine at_leaf (ls2 := [(112, .ref 207), (0, .int x1), (0, .int x2), (0, .int a3), (0, dV)]) h3.1 ⟨Or.inr ⟨_, (h3.2 0 rfl).trans rfl⟩, Or.inr ⟨_, (h3.2 1 rfl).trans rfl⟩, Or.inr ⟨_, (h3.2 2 rfl).trans rfl⟩, Or.inr n3, Or.inl ⟨rfl, n4⟩, trivial⟩ ?_
      cases h; exact qb _ _ hq
    rcases mC_ok h with ⟨hb, h⟩ | ⟨_, h⟩
    · have e := Nat.eq_of_beq_eq_true hb
      subst e
      obtain ⟨hst, h⟩ := mN_ok h
      subst hst
      obtain ⟨n3, h⟩ := gD_ok h
      obtain ⟨n4, h⟩ := gD_ok h
      refine at_leaf (ls2 := [(112, .ref 207), (0, .int x1), (0, .int x2), (0, dV), (0, dV)]) h3.1 ⟨Or.inr ⟨_, (h3.2 0 rfl).trans rfl⟩, Or.inr ⟨_, (h3.2 1 rfl).trans rfl⟩, Or.inr ⟨_, (h3.2 2 rfl).trans rfl⟩, Or.inl ⟨rfl, n3⟩, Or.inl ⟨rfl, n4⟩, trivial⟩ ?_
      cases h; exact qe72 _ _ hq
    cases h
  · intro v I2 _ h
    cases h
def B_R_fewestPersons_97 (x1 : Int32) (x2 : Int32) (x3 : Int32) (y : Int32) : M ((Int32) ⊕ ((Unit))) :=
  (if y < x1 then
    bn (F_R_has y x3) fun v1 =>
    (if v1 = 0 then
      bn (ld 1024 234 (y ||| ((1 : Int32) <<< (x3 &&& 31)))) fun v2 =>
      bn (ld 1024 233 y) fun v3 =>
      bn (F_R_greater v2 (v3 + (1 : Int32))) fun v4 =>
      bn (sr 1024 234 (y ||| ((1 : Int32) <<< (x3 &&& 31))) v4) fun _ =>
      rt (.inl (y + (1 : Int32)))
    else
      rt (.inl (y + (1 : Int32))))
  else
    rt (.inr ()))
set_option maxRecDepth 4000 in
theorem e_b_R_fewestPersons_97 (f_R_canCome : Int32 → Int32 → M Int32) (f_R_greater : Int32 → Int32 → M Int32) (f_R_has : Int32 → Int32 → M Int32) (x1 : Int32) (x2 : Int32) (x3 : Int32) (y : Int32) : wf (β := (Int32) ⊕ ((Unit))) L X q_R_fewestPersons 1 (cs_R_fewestPersons f_R_canCome f_R_greater f_R_has) [4] [9, 37, 39, 49, 72, 74, 97, 154, 160, 162, 185, 191, 195] (fun pc ls st => mC (Nat.beq pc 97) (mN st <| gI ls 4 fun a4 => rt (.inl a4)) (mC (Nat.beq pc 154) (mN st <| gD ls 4 <| rt (.inr ())) (fl))) (fun _ => fl) 136 97 [(112, .ref 207), (0, .int x1), (0, .int x2), (0, .int x3), (0, .int y)] [] = ((if y < x1 then
    bn (f_R_has y x3) fun v1 =>
    (if v1 = 0 then
      bn (ld 1024 234 (y ||| ((1 : Int32) <<< (x3 &&& 31)))) fun v2 =>
      bn (ld 1024 233 y) fun v3 =>
      bn (f_R_greater v2 (v3 + (1 : Int32))) fun v4 =>
      bn (sr 1024 234 (y ||| ((1 : Int32) <<< (x3 &&& 31))) v4) fun _ =>
      rt (.inl (y + (1 : Int32)))
    else
      rt (.inl (y + (1 : Int32))))
  else
    rt (.inr ()))) := rfl
theorem b_R_fewestPersons_97 {d : Nat} (hcs : AllS L X d (cs_R_fewestPersons F_R_canCome F_R_greater F_R_has)) (x1 : Int32) (x2 : Int32) (x3 : Int32) {o : Option Value × PH} {Q : ((Int32) ⊕ ((Unit))) → MI → Prop} (qb : ∀ y I, Q (.inl y) I → At L X (d + 1) 283 97 [(112, .ref 207), (0, .int x1), (0, .int x2), (0, .int x3), (0, .int y)] [] I o) (qe154 : ∀ y I, Q (.inr y) I → At L X (d + 1) 283 154 [(112, .ref 207), (0, .int x1), (0, .int x2), (0, .int x3), (0, dV)] [] I o) (y : Int32) (I : MI) (r : (Int32) ⊕ ((Unit))) (I1 : MI) (h : B_R_fewestPersons_97 x1 x2 x3 y I = some (r, I1)) (hq : Q r I1) : At L X (d + 1) 283 97 [(112, .ref 207), (0, .int x1), (0, .int x2), (0, .int x3), (0, .int y)] [] I o := by
  refine wf_ok z_R_fewestPersons hcs ?_ ?_ _ _ _ _ _ ⟨rfl, trivial, trivial, trivial, trivial, trivial⟩ trivial (unm_refl _ _) ((congrFun (e_b_R_fewestPersons_97 (L := L) (X := X) F_R_canCome F_R_greater F_R_has x1 x2 x3 y) I).trans h)
  · intro pc ls st I2 h1 h2 h3 h
    rcases mC_ok h with ⟨hb, h⟩ | ⟨_, h⟩
    · have e := Nat.eq_of_beq_eq_true hb
      subst e
      obtain ⟨hst, h⟩ := mN_ok h
      subst hst
      obtain ⟨a4, n4, h⟩ := gI_ok h
      refine at_leaf (ls2 := [(112, .ref 207), (0, .int x1), (0, .int x2), (0, .int x3), (0, .int a4)]) h3.1 ⟨Or.inr ⟨_, (h3.2 0 rfl).trans rfl⟩, Or.inr ⟨_, (h3.2 1 rfl).trans rfl⟩, Or.inr ⟨_, (h3.2 2 rfl).trans rfl⟩, Or.inr ⟨_, (h3.2 3 rfl).trans rfl⟩, Or.inr n4, trivial⟩ ?_
      cases h; exact qb _ _ hq
    rcases mC_ok h with ⟨hb, h⟩ | ⟨_, h⟩
    · have e := Nat.eq_of_beq_eq_true hb
      subst e
      obtain ⟨hst, h⟩ := mN_ok h
      subst hst
      obtain ⟨n4, h⟩ := gD_ok h
      refine at_leaf (ls2 := [(112, .ref 207), (0, .int x1), (0, .int x2), (0, .int x3), (0, dV)]) h3.1 ⟨Or.inr ⟨_, (h3.2 0 rfl).trans rfl⟩, Or.inr ⟨_, (h3.2 1 rfl).trans rfl⟩, Or.inr ⟨_, (h3.2 2 rfl).trans rfl⟩, Or.inr ⟨_, (h3.2 3 rfl).trans rfl⟩, Or.inl ⟨rfl, n4⟩, trivial⟩ ?_
      cases h; exact qe154 _ _ hq
    cases h
  · intro v I2 _ h
    cases h
def K_R_fewestPersons_154 (x1 : Int32) (x2 : Int32) (x3 : Int32) : M ((Int32) ⊕ ((Unit))) :=
  rt (.inl (x3 + (1 : Int32)))
set_option maxRecDepth 4000 in
theorem e_s_R_fewestPersons_154 (f_R_canCome : Int32 → Int32 → M Int32) (f_R_greater : Int32 → Int32 → M Int32) (f_R_has : Int32 → Int32 → M Int32) (x1 : Int32) (x2 : Int32) (x3 : Int32) : wf (β := (Int32) ⊕ ((Unit))) L X q_R_fewestPersons 1 (cs_R_fewestPersons f_R_canCome f_R_greater f_R_has) [3] [9, 37, 39, 49, 72, 74, 97, 154, 160, 162, 185, 191, 195] (fun pc ls st => mC (Nat.beq pc 74) (mN st <| gI ls 3 fun a3 => gD ls 4 <| rt (.inl a3)) (fl)) (fun _ => fl) 136 154 [(112, .ref 207), (0, .int x1), (0, .int x2), (0, .int x3), (0, dV)] [] = (rt (.inl (x3 + (1 : Int32)))) := rfl
theorem s_R_fewestPersons_154 {d : Nat} (hcs : AllS L X d (cs_R_fewestPersons F_R_canCome F_R_greater F_R_has)) (x1 : Int32) (x2 : Int32) (x3 : Int32) {o : Option Value × PH} {Q : ((Int32) ⊕ ((Unit))) → MI → Prop} (qb : ∀ y I, Q (.inl y) I → At L X (d + 1) 283 74 [(112, .ref 207), (0, .int x1), (0, .int x2), (0, .int y), (0, dV)] [] I o) (qe160 : ∀ y I, Q (.inr y) I → At L X (d + 1) 283 160 [(112, .ref 207), (0, .int x1), (0, .int x2), (0, dV), (0, dV)] [] I o) (I : MI) (r : (Int32) ⊕ ((Unit))) (I1 : MI) (h : K_R_fewestPersons_154 x1 x2 x3 I = some (r, I1)) (hq : Q r I1) : At L X (d + 1) 283 154 [(112, .ref 207), (0, .int x1), (0, .int x2), (0, .int x3), (0, dV)] [] I o := by
  refine wf_ok z_R_fewestPersons hcs ?_ ?_ _ _ _ _ _ ⟨rfl, trivial, trivial, trivial, trivial, trivial⟩ trivial (unm_refl _ _) ((congrFun (e_s_R_fewestPersons_154 (L := L) (X := X) F_R_canCome F_R_greater F_R_has x1 x2 x3) I).trans h)
  · intro pc ls st I2 h1 h2 h3 h
    rcases mC_ok h with ⟨hb, h⟩ | ⟨_, h⟩
    · have e := Nat.eq_of_beq_eq_true hb
      subst e
      obtain ⟨hst, h⟩ := mN_ok h
      subst hst
      obtain ⟨a3, n3, h⟩ := gI_ok h
      obtain ⟨n4, h⟩ := gD_ok h
      refine at_leaf (ls2 := [(112, .ref 207), (0, .int x1), (0, .int x2), (0, .int a3), (0, dV)]) h3.1 ⟨Or.inr ⟨_, (h3.2 0 rfl).trans rfl⟩, Or.inr ⟨_, (h3.2 1 rfl).trans rfl⟩, Or.inr ⟨_, (h3.2 2 rfl).trans rfl⟩, Or.inr n3, Or.inl ⟨rfl, n4⟩, trivial⟩ ?_
      cases h; exact qb _ _ hq
    cases h
  · intro v I2 _ h
    cases h
def K_R_fewestPersons_97 (x1 : Int32) (x2 : Int32) (x3 : Int32) (x4 : Int32) : M ((Int32) ⊕ ((Unit))) :=
  bn (lp (B_R_fewestPersons_97 x1 x2 x3) FU x4) fun e => K_R_fewestPersons_154 x1 x2 x3
theorem s_R_fewestPersons_97 {d : Nat} (hcs : AllS L X d (cs_R_fewestPersons F_R_canCome F_R_greater F_R_has)) (x1 : Int32) (x2 : Int32) (x3 : Int32) (x4 : Int32) {o : Option Value × PH} {Q : ((Int32) ⊕ ((Unit))) → MI → Prop} (qb : ∀ y I, Q (.inl y) I → At L X (d + 1) 283 74 [(112, .ref 207), (0, .int x1), (0, .int x2), (0, .int y), (0, dV)] [] I o) (qe160 : ∀ y I, Q (.inr y) I → At L X (d + 1) 283 160 [(112, .ref 207), (0, .int x1), (0, .int x2), (0, dV), (0, dV)] [] I o) (I : MI) (r : (Int32) ⊕ ((Unit))) (I1 : MI) (h : K_R_fewestPersons_97 x1 x2 x3 x4 I = some (r, I1)) (hq : Q r I1) : At L X (d + 1) 283 97 [(112, .ref 207), (0, .int x1), (0, .int x2), (0, .int x3), (0, .int x4)] [] I o := by
  unfold K_R_fewestPersons_97 at h
  obtain ⟨e, I2, h1, h2⟩ := bn_some h
  have w0 := fun w => at_lp (body := B_R_fewestPersons_97 x1 x2 x3) (P := (fun (y : Int32) I => At L X (d + 1) 283 97 [(112, .ref 207), (0, .int x1), (0, .int x2), (0, .int x3), (0, .int y)] [] I o)) (Q := (fun (e : (Unit)) I => (K_R_fewestPersons_154 x1 x2 x3) I = some (r, I1))) w FU x4 I e I2 h1 h2
  refine w0 ?_
  intro y I r2 I3 h hq2
  exact b_R_fewestPersons_97 hcs x1 x2 x3 (Q := SQ (fun (y : Int32) I => At L X (d + 1) 283 97 [(112, .ref 207), (0, .int x1), (0, .int x2), (0, .int x3), (0, .int y)] [] I o) (fun (e : (Unit)) I => (K_R_fewestPersons_154 x1 x2 x3) I = some (r, I1))) (fun _ _ w => w) (fun y I w => s_R_fewestPersons_154 hcs x1 x2 x3 qb qe160 _ _ _ w hq) y I r2 I3 h hq2
def B_R_fewestPersons_74 (x1 : Int32) (x2 : Int32) (y : Int32) : M ((Int32) ⊕ ((Unit))) :=
  bn (rd 207 44) fun v1 =>
  (if y < v1 then
    bn (F_R_canCome x2 y) fun v2 =>
    (if v2 = 0 then
      K_R_fewestPersons_154 x1 x2 y
    else
      K_R_fewestPersons_97 x1 x2 y (0 : Int32))
  else
    rt (.inr ()))
set_option maxRecDepth 4000 in
theorem e_b_R_fewestPersons_74 (f_R_canCome : Int32 → Int32 → M Int32) (f_R_greater : Int32 → Int32 → M Int32) (f_R_has : Int32 → Int32 → M Int32) (k_97 : Int32 → Int32 → Int32 → Int32 → M ((Int32) ⊕ ((Unit)))) (k_154 : Int32 → Int32 → Int32 → M ((Int32) ⊕ ((Unit)))) (x1 : Int32) (x2 : Int32) (y : Int32) : wf (β := (Int32) ⊕ ((Unit))) L X q_R_fewestPersons 1 (cs_R_fewestPersons f_R_canCome f_R_greater f_R_has) [4] [9, 37, 39, 49, 72, 74, 97, 154, 160, 162, 185, 191, 195] (fun pc ls st => mC (Nat.beq pc 97) (mN st <| gI ls 4 fun a4 => k_97 x1 x2 y a4) (mC (Nat.beq pc 154) (mN st <| gD ls 4 <| k_154 x1 x2 y) (mC (Nat.beq pc 160) (mN st <| gD ls 3 <| gD ls 4 <| rt (.inr ())) (fl)))) (fun _ => fl) 136 74 [(112, .ref 207), (0, .int x1), (0, .int x2), (0, .int y), (0, dV)] [] = (bn (rd 207 44) fun v1 =>
  (if y < v1 then
    bn (f_R_canCome x2 y) fun v2 =>
    (if v2 = 0 then
      k_154 x1 x2 y
    else
      k_97 x1 x2 y (0 : Int32))
  else
    rt (.inr ()))) := rfl
theorem b_R_fewestPersons_74 {d : Nat} (hcs : AllS L X d (cs_R_fewestPersons F_R_canCome F_R_greater F_R_has)) (x1 : Int32) (x2 : Int32) {o : Option Value × PH} {Q : ((Int32) ⊕ ((Unit))) → MI → Prop} (qb : ∀ y I, Q (.inl y) I → At L X (d + 1) 283 74 [(112, .ref 207), (0, .int x1), (0, .int x2), (0, .int y), (0, dV)] [] I o) (qe160 : ∀ y I, Q (.inr y) I → At L X (d + 1) 283 160 [(112, .ref 207), (0, .int x1), (0, .int x2), (0, dV), (0, dV)] [] I o) (y : Int32) (I : MI) (r : (Int32) ⊕ ((Unit))) (I1 : MI) (h : B_R_fewestPersons_74 x1 x2 y I = some (r, I1)) (hq : Q r I1) : At L X (d + 1) 283 74 [(112, .ref 207), (0, .int x1), (0, .int x2), (0, .int y), (0, dV)] [] I o := by
  refine wf_ok z_R_fewestPersons hcs ?_ ?_ _ _ _ _ _ ⟨rfl, trivial, trivial, trivial, trivial, trivial⟩ trivial (unm_refl _ _) ((congrFun (e_b_R_fewestPersons_74 (L := L) (X := X) F_R_canCome F_R_greater F_R_has K_R_fewestPersons_97 K_R_fewestPersons_154 x1 x2 y) I).trans h)
  · intro pc ls st I2 h1 h2 h3 h
    rcases mC_ok h with ⟨hb, h⟩ | ⟨_, h⟩
    · have e := Nat.eq_of_beq_eq_true hb
      subst e
      obtain ⟨hst, h⟩ := mN_ok h
      subst hst
      obtain ⟨a4, n4, h⟩ := gI_ok h
      refine at_leaf (ls2 := [(112, .ref 207), (0, .int x1), (0, .int x2), (0, .int y), (0, .int a4)]) h3.1 ⟨Or.inr ⟨_, (h3.2 0 rfl).trans rfl⟩, Or.inr ⟨_, (h3.2 1 rfl).trans rfl⟩, Or.inr ⟨_, (h3.2 2 rfl).trans rfl⟩, Or.inr ⟨_, (h3.2 3 rfl).trans rfl⟩, Or.inr n4, trivial⟩ ?_
      exact s_R_fewestPersons_97 hcs x1 x2 y a4 qb qe160 _ _ _ h hq
    rcases mC_ok h with ⟨hb, h⟩ | ⟨_, h⟩
    · have e := Nat.eq_of_beq_eq_true hb
      subst e
      obtain ⟨hst, h⟩ := mN_ok h
      subst hst
      obtain ⟨n4, h⟩ := gD_ok h
      refine at_leaf (ls2 := [(112, .ref 207), (0, .int x1), (0, .int x2), (0, .int y), (0, dV)]) h3.1 ⟨Or.inr ⟨_, (h3.2 0 rfl).trans rfl⟩, Or.inr ⟨_, (h3.2 1 rfl).trans rfl⟩, Or.inr ⟨_, (h3.2 2 rfl).trans rfl⟩, Or.inr ⟨_, (h3.2 3 rfl).trans rfl⟩, Or.inl ⟨rfl, n4⟩, trivial⟩ ?_
      exact s_R_fewestPersons_154 hcs x1 x2 y qb qe160 _ _ _ h hq
    rcases mC_ok h with ⟨hb, h⟩ | ⟨_, h⟩
    · have e := Nat.eq_of_beq_eq_true hb
      subst e
      obtain ⟨hst, h⟩ := mN_ok h
      subst hst
      obtain ⟨n3, h⟩ := gD_ok h
      obtain ⟨n4, h⟩ := gD_ok h
      refine at_leaf (ls2 := [(112, .ref 207), (0, .int x1), (0, .int x2), (0, dV), (0, dV)]) h3.1 ⟨Or.inr ⟨_, (h3.2 0 rfl).trans rfl⟩, Or.inr ⟨_, (h3.2 1 rfl).trans rfl⟩, Or.inr ⟨_, (h3.2 2 rfl).trans rfl⟩, Or.inl ⟨rfl, n3⟩, Or.inl ⟨rfl, n4⟩, trivial⟩ ?_
      cases h; exact qe160 _ _ hq
    cases h
  · intro v I2 _ h
    cases h
def B_R_fewestPersons_162 (x1 : Int32) (x2 : Int32) (y : Int32) : M ((Int32) ⊕ ((Unit))) :=
  (if y < x1 then
    bn (ld 1024 234 y) fun v1 =>
    bn (sr 1024 233 y v1) fun _ =>
    rt (.inl (y + (1 : Int32)))
  else
    rt (.inr ()))
set_option maxRecDepth 4000 in
theorem e_b_R_fewestPersons_162 (f_R_canCome : Int32 → Int32 → M Int32) (f_R_greater : Int32 → Int32 → M Int32) (f_R_has : Int32 → Int32 → M Int32) (x1 : Int32) (x2 : Int32) (y : Int32) : wf (β := (Int32) ⊕ ((Unit))) L X q_R_fewestPersons 1 (cs_R_fewestPersons f_R_canCome f_R_greater f_R_has) [3] [9, 37, 39, 49, 72, 74, 97, 154, 160, 162, 185, 191, 195] (fun pc ls st => mC (Nat.beq pc 162) (mN st <| gI ls 3 fun a3 => gD ls 4 <| rt (.inl a3)) (mC (Nat.beq pc 185) (mN st <| gD ls 3 <| gD ls 4 <| rt (.inr ())) (fl))) (fun _ => fl) 136 162 [(112, .ref 207), (0, .int x1), (0, .int x2), (0, .int y), (0, dV)] [] = ((if y < x1 then
    bn (ld 1024 234 y) fun v1 =>
    bn (sr 1024 233 y v1) fun _ =>
    rt (.inl (y + (1 : Int32)))
  else
    rt (.inr ()))) := rfl
theorem b_R_fewestPersons_162 {d : Nat} (hcs : AllS L X d (cs_R_fewestPersons F_R_canCome F_R_greater F_R_has)) (x1 : Int32) (x2 : Int32) {o : Option Value × PH} {Q : ((Int32) ⊕ ((Unit))) → MI → Prop} (qb : ∀ y I, Q (.inl y) I → At L X (d + 1) 283 162 [(112, .ref 207), (0, .int x1), (0, .int x2), (0, .int y), (0, dV)] [] I o) (qe185 : ∀ y I, Q (.inr y) I → At L X (d + 1) 283 185 [(112, .ref 207), (0, .int x1), (0, .int x2), (0, dV), (0, dV)] [] I o) (y : Int32) (I : MI) (r : (Int32) ⊕ ((Unit))) (I1 : MI) (h : B_R_fewestPersons_162 x1 x2 y I = some (r, I1)) (hq : Q r I1) : At L X (d + 1) 283 162 [(112, .ref 207), (0, .int x1), (0, .int x2), (0, .int y), (0, dV)] [] I o := by
  refine wf_ok z_R_fewestPersons hcs ?_ ?_ _ _ _ _ _ ⟨rfl, trivial, trivial, trivial, trivial, trivial⟩ trivial (unm_refl _ _) ((congrFun (e_b_R_fewestPersons_162 (L := L) (X := X) F_R_canCome F_R_greater F_R_has x1 x2 y) I).trans h)
  · intro pc ls st I2 h1 h2 h3 h
    rcases mC_ok h with ⟨hb, h⟩ | ⟨_, h⟩
    · have e := Nat.eq_of_beq_eq_true hb
      subst e
      obtain ⟨hst, h⟩ := mN_ok h
      subst hst
      obtain ⟨a3, n3, h⟩ := gI_ok h
      obtain ⟨n4, h⟩ := gD_ok h
      refine at_leaf (ls2 := [(112, .ref 207), (0, .int x1), (0, .int x2), (0, .int a3), (0, dV)]) h3.1 ⟨Or.inr ⟨_, (h3.2 0 rfl).trans rfl⟩, Or.inr ⟨_, (h3.2 1 rfl).trans rfl⟩, Or.inr ⟨_, (h3.2 2 rfl).trans rfl⟩, Or.inr n3, Or.inl ⟨rfl, n4⟩, trivial⟩ ?_
      cases h; exact qb _ _ hq
    rcases mC_ok h with ⟨hb, h⟩ | ⟨_, h⟩
    · have e := Nat.eq_of_beq_eq_true hb
      subst e
      obtain ⟨hst, h⟩ := mN_ok h
      subst hst
      obtain ⟨n3, h⟩ := gD_ok h
      obtain ⟨n4, h⟩ := gD_ok h
      refine at_leaf (ls2 := [(112, .ref 207), (0, .int x1), (0, .int x2), (0, dV), (0, dV)]) h3.1 ⟨Or.inr ⟨_, (h3.2 0 rfl).trans rfl⟩, Or.inr ⟨_, (h3.2 1 rfl).trans rfl⟩, Or.inr ⟨_, (h3.2 2 rfl).trans rfl⟩, Or.inl ⟨rfl, n3⟩, Or.inl ⟨rfl, n4⟩, trivial⟩ ?_
      cases h; exact qe185 _ _ hq
    cases h
  · intro v I2 _ h
    cases h
def K_R_fewestPersons_185 (x1 : Int32) (x2 : Int32) : M ((Int32) ⊕ ((Unit))) :=
  rt (.inl (x2 + (1 : Int32)))
set_option maxRecDepth 4000 in
theorem e_s_R_fewestPersons_185 (f_R_canCome : Int32 → Int32 → M Int32) (f_R_greater : Int32 → Int32 → M Int32) (f_R_has : Int32 → Int32 → M Int32) (x1 : Int32) (x2 : Int32) : wf (β := (Int32) ⊕ ((Unit))) L X q_R_fewestPersons 1 (cs_R_fewestPersons f_R_canCome f_R_greater f_R_has) [2] [9, 37, 39, 49, 72, 74, 97, 154, 160, 162, 185, 191, 195] (fun pc ls st => mC (Nat.beq pc 39) (mN st <| gI ls 2 fun a2 => gD ls 3 <| gD ls 4 <| rt (.inl a2)) (fl)) (fun _ => fl) 136 185 [(112, .ref 207), (0, .int x1), (0, .int x2), (0, dV), (0, dV)] [] = (rt (.inl (x2 + (1 : Int32)))) := rfl
theorem s_R_fewestPersons_185 {d : Nat} (hcs : AllS L X d (cs_R_fewestPersons F_R_canCome F_R_greater F_R_has)) (x1 : Int32) (x2 : Int32) {o : Option Value × PH} {Q : ((Int32) ⊕ ((Unit))) → MI → Prop} (qb : ∀ y I, Q (.inl y) I → At L X (d + 1) 283 39 [(112, .ref 207), (0, .int x1), (0, .int y), (0, dV), (0, dV)] [] I o) (qe191 : ∀ y I, Q (.inr y) I → At L X (d + 1) 283 191 [(112, .ref 207), (0, .int x1), (0, dV), (0, dV), (0, dV)] [] I o) (I : MI) (r : (Int32) ⊕ ((Unit))) (I1 : MI) (h : K_R_fewestPersons_185 x1 x2 I = some (r, I1)) (hq : Q r I1) : At L X (d + 1) 283 185 [(112, .ref 207), (0, .int x1), (0, .int x2), (0, dV), (0, dV)] [] I o := by
  refine wf_ok z_R_fewestPersons hcs ?_ ?_ _ _ _ _ _ ⟨rfl, trivial, trivial, trivial, trivial, trivial⟩ trivial (unm_refl _ _) ((congrFun (e_s_R_fewestPersons_185 (L := L) (X := X) F_R_canCome F_R_greater F_R_has x1 x2) I).trans h)
  · intro pc ls st I2 h1 h2 h3 h
    rcases mC_ok h with ⟨hb, h⟩ | ⟨_, h⟩
    · have e := Nat.eq_of_beq_eq_true hb
      subst e
      obtain ⟨hst, h⟩ := mN_ok h
      subst hst
      obtain ⟨a2, n2, h⟩ := gI_ok h
      obtain ⟨n3, h⟩ := gD_ok h
      obtain ⟨n4, h⟩ := gD_ok h
      refine at_leaf (ls2 := [(112, .ref 207), (0, .int x1), (0, .int a2), (0, dV), (0, dV)]) h3.1 ⟨Or.inr ⟨_, (h3.2 0 rfl).trans rfl⟩, Or.inr ⟨_, (h3.2 1 rfl).trans rfl⟩, Or.inr n2, Or.inl ⟨rfl, n3⟩, Or.inl ⟨rfl, n4⟩, trivial⟩ ?_
      cases h; exact qb _ _ hq
    cases h
  · intro v I2 _ h
    cases h
def K_R_fewestPersons_162 (x1 : Int32) (x2 : Int32) (x3 : Int32) : M ((Int32) ⊕ ((Unit))) :=
  bn (lp (B_R_fewestPersons_162 x1 x2) FU x3) fun e => K_R_fewestPersons_185 x1 x2
theorem s_R_fewestPersons_162 {d : Nat} (hcs : AllS L X d (cs_R_fewestPersons F_R_canCome F_R_greater F_R_has)) (x1 : Int32) (x2 : Int32) (x3 : Int32) {o : Option Value × PH} {Q : ((Int32) ⊕ ((Unit))) → MI → Prop} (qb : ∀ y I, Q (.inl y) I → At L X (d + 1) 283 39 [(112, .ref 207), (0, .int x1), (0, .int y), (0, dV), (0, dV)] [] I o) (qe191 : ∀ y I, Q (.inr y) I → At L X (d + 1) 283 191 [(112, .ref 207), (0, .int x1), (0, dV), (0, dV), (0, dV)] [] I o) (I : MI) (r : (Int32) ⊕ ((Unit))) (I1 : MI) (h : K_R_fewestPersons_162 x1 x2 x3 I = some (r, I1)) (hq : Q r I1) : At L X (d + 1) 283 162 [(112, .ref 207), (0, .int x1), (0, .int x2), (0, .int x3), (0, dV)] [] I o := by
  unfold K_R_fewestPersons_162 at h
  obtain ⟨e, I2, h1, h2⟩ := bn_some h
  have w0 := fun w => at_lp (body := B_R_fewestPersons_162 x1 x2) (P := (fun (y : Int32) I => At L X (d + 1) 283 162 [(112, .ref 207), (0, .int x1), (0, .int x2), (0, .int y), (0, dV)] [] I o)) (Q := (fun (e : (Unit)) I => (K_R_fewestPersons_185 x1 x2) I = some (r, I1))) w FU x3 I e I2 h1 h2
  refine w0 ?_
  intro y I r2 I3 h hq2
  exact b_R_fewestPersons_162 hcs x1 x2 (Q := SQ (fun (y : Int32) I => At L X (d + 1) 283 162 [(112, .ref 207), (0, .int x1), (0, .int x2), (0, .int y), (0, dV)] [] I o) (fun (e : (Unit)) I => (K_R_fewestPersons_185 x1 x2) I = some (r, I1))) (fun _ _ w => w) (fun y I w => s_R_fewestPersons_185 hcs x1 x2 qb qe191 _ _ _ w hq) y I r2 I3 h hq2
def K_R_fewestPersons_160 (x1 : Int32) (x2 : Int32) : M ((Int32) ⊕ ((Unit))) :=
  K_R_fewestPersons_162 x1 x2 (0 : Int32)
set_option maxRecDepth 4000 in
theorem e_s_R_fewestPersons_160 (f_R_canCome : Int32 → Int32 → M Int32) (f_R_greater : Int32 → Int32 → M Int32) (f_R_has : Int32 → Int32 → M Int32) (k_162 : Int32 → Int32 → Int32 → M ((Int32) ⊕ ((Unit)))) (x1 : Int32) (x2 : Int32) : wf (β := (Int32) ⊕ ((Unit))) L X q_R_fewestPersons 1 (cs_R_fewestPersons f_R_canCome f_R_greater f_R_has) [3] [9, 37, 39, 49, 72, 74, 97, 154, 160, 162, 185, 191, 195] (fun pc ls st => mC (Nat.beq pc 162) (mN st <| gI ls 3 fun a3 => gD ls 4 <| k_162 x1 x2 a3) (fl)) (fun _ => fl) 136 160 [(112, .ref 207), (0, .int x1), (0, .int x2), (0, dV), (0, dV)] [] = (k_162 x1 x2 (0 : Int32)) := rfl
theorem s_R_fewestPersons_160 {d : Nat} (hcs : AllS L X d (cs_R_fewestPersons F_R_canCome F_R_greater F_R_has)) (x1 : Int32) (x2 : Int32) {o : Option Value × PH} {Q : ((Int32) ⊕ ((Unit))) → MI → Prop} (qb : ∀ y I, Q (.inl y) I → At L X (d + 1) 283 39 [(112, .ref 207), (0, .int x1), (0, .int y), (0, dV), (0, dV)] [] I o) (qe191 : ∀ y I, Q (.inr y) I → At L X (d + 1) 283 191 [(112, .ref 207), (0, .int x1), (0, dV), (0, dV), (0, dV)] [] I o) (I : MI) (r : (Int32) ⊕ ((Unit))) (I1 : MI) (h : K_R_fewestPersons_160 x1 x2 I = some (r, I1)) (hq : Q r I1) : At L X (d + 1) 283 160 [(112, .ref 207), (0, .int x1), (0, .int x2), (0, dV), (0, dV)] [] I o := by
  refine wf_ok z_R_fewestPersons hcs ?_ ?_ _ _ _ _ _ ⟨rfl, trivial, trivial, trivial, trivial, trivial⟩ trivial (unm_refl _ _) ((congrFun (e_s_R_fewestPersons_160 (L := L) (X := X) F_R_canCome F_R_greater F_R_has K_R_fewestPersons_162 x1 x2) I).trans h)
  · intro pc ls st I2 h1 h2 h3 h
    rcases mC_ok h with ⟨hb, h⟩ | ⟨_, h⟩
    · have e := Nat.eq_of_beq_eq_true hb
      subst e
      obtain ⟨hst, h⟩ := mN_ok h
      subst hst
      obtain ⟨a3, n3, h⟩ := gI_ok h
      obtain ⟨n4, h⟩ := gD_ok h
      refine at_leaf (ls2 := [(112, .ref 207), (0, .int x1), (0, .int x2), (0, .int a3), (0, dV)]) h3.1 ⟨Or.inr ⟨_, (h3.2 0 rfl).trans rfl⟩, Or.inr ⟨_, (h3.2 1 rfl).trans rfl⟩, Or.inr ⟨_, (h3.2 2 rfl).trans rfl⟩, Or.inr n3, Or.inl ⟨rfl, n4⟩, trivial⟩ ?_
      exact s_R_fewestPersons_162 hcs x1 x2 a3 qb qe191 _ _ _ h hq
    cases h
  · intro v I2 _ h
    cases h
def K_R_fewestPersons_74 (x1 : Int32) (x2 : Int32) (x3 : Int32) : M ((Int32) ⊕ ((Unit))) :=
  bn (lp (B_R_fewestPersons_74 x1 x2) FU x3) fun e => K_R_fewestPersons_160 x1 x2
theorem s_R_fewestPersons_74 {d : Nat} (hcs : AllS L X d (cs_R_fewestPersons F_R_canCome F_R_greater F_R_has)) (x1 : Int32) (x2 : Int32) (x3 : Int32) {o : Option Value × PH} {Q : ((Int32) ⊕ ((Unit))) → MI → Prop} (qb : ∀ y I, Q (.inl y) I → At L X (d + 1) 283 39 [(112, .ref 207), (0, .int x1), (0, .int y), (0, dV), (0, dV)] [] I o) (qe191 : ∀ y I, Q (.inr y) I → At L X (d + 1) 283 191 [(112, .ref 207), (0, .int x1), (0, dV), (0, dV), (0, dV)] [] I o) (I : MI) (r : (Int32) ⊕ ((Unit))) (I1 : MI) (h : K_R_fewestPersons_74 x1 x2 x3 I = some (r, I1)) (hq : Q r I1) : At L X (d + 1) 283 74 [(112, .ref 207), (0, .int x1), (0, .int x2), (0, .int x3), (0, dV)] [] I o := by
  unfold K_R_fewestPersons_74 at h
  obtain ⟨e, I2, h1, h2⟩ := bn_some h
  have w0 := fun w => at_lp (body := B_R_fewestPersons_74 x1 x2) (P := (fun (y : Int32) I => At L X (d + 1) 283 74 [(112, .ref 207), (0, .int x1), (0, .int x2), (0, .int y), (0, dV)] [] I o)) (Q := (fun (e : (Unit)) I => (K_R_fewestPersons_160 x1 x2) I = some (r, I1))) w FU x3 I e I2 h1 h2
  refine w0 ?_
  intro y I r2 I3 h hq2
  exact b_R_fewestPersons_74 hcs x1 x2 (Q := SQ (fun (y : Int32) I => At L X (d + 1) 283 74 [(112, .ref 207), (0, .int x1), (0, .int x2), (0, .int y), (0, dV)] [] I o) (fun (e : (Unit)) I => (K_R_fewestPersons_160 x1 x2) I = some (r, I1))) (fun _ _ w => w) (fun y I w => s_R_fewestPersons_160 hcs x1 x2 qb qe191 _ _ _ w hq) y I r2 I3 h hq2
def K_R_fewestPersons_72 (x1 : Int32) (x2 : Int32) : M ((Int32) ⊕ ((Unit))) :=
  K_R_fewestPersons_74 x1 x2 (0 : Int32)
set_option maxRecDepth 4000 in
theorem e_s_R_fewestPersons_72 (f_R_canCome : Int32 → Int32 → M Int32) (f_R_greater : Int32 → Int32 → M Int32) (f_R_has : Int32 → Int32 → M Int32) (k_74 : Int32 → Int32 → Int32 → M ((Int32) ⊕ ((Unit)))) (x1 : Int32) (x2 : Int32) : wf (β := (Int32) ⊕ ((Unit))) L X q_R_fewestPersons 1 (cs_R_fewestPersons f_R_canCome f_R_greater f_R_has) [3] [9, 37, 39, 49, 72, 74, 97, 154, 160, 162, 185, 191, 195] (fun pc ls st => mC (Nat.beq pc 74) (mN st <| gI ls 3 fun a3 => gD ls 4 <| k_74 x1 x2 a3) (fl)) (fun _ => fl) 136 72 [(112, .ref 207), (0, .int x1), (0, .int x2), (0, dV), (0, dV)] [] = (k_74 x1 x2 (0 : Int32)) := rfl
theorem s_R_fewestPersons_72 {d : Nat} (hcs : AllS L X d (cs_R_fewestPersons F_R_canCome F_R_greater F_R_has)) (x1 : Int32) (x2 : Int32) {o : Option Value × PH} {Q : ((Int32) ⊕ ((Unit))) → MI → Prop} (qb : ∀ y I, Q (.inl y) I → At L X (d + 1) 283 39 [(112, .ref 207), (0, .int x1), (0, .int y), (0, dV), (0, dV)] [] I o) (qe191 : ∀ y I, Q (.inr y) I → At L X (d + 1) 283 191 [(112, .ref 207), (0, .int x1), (0, dV), (0, dV), (0, dV)] [] I o) (I : MI) (r : (Int32) ⊕ ((Unit))) (I1 : MI) (h : K_R_fewestPersons_72 x1 x2 I = some (r, I1)) (hq : Q r I1) : At L X (d + 1) 283 72 [(112, .ref 207), (0, .int x1), (0, .int x2), (0, dV), (0, dV)] [] I o := by
  refine wf_ok z_R_fewestPersons hcs ?_ ?_ _ _ _ _ _ ⟨rfl, trivial, trivial, trivial, trivial, trivial⟩ trivial (unm_refl _ _) ((congrFun (e_s_R_fewestPersons_72 (L := L) (X := X) F_R_canCome F_R_greater F_R_has K_R_fewestPersons_74 x1 x2) I).trans h)
  · intro pc ls st I2 h1 h2 h3 h
    rcases mC_ok h with ⟨hb, h⟩ | ⟨_, h⟩
    · have e := Nat.eq_of_beq_eq_true hb
      subst e
      obtain ⟨hst, h⟩ := mN_ok h
      subst hst
      obtain ⟨a3, n3, h⟩ := gI_ok h
      obtain ⟨n4, h⟩ := gD_ok h
      refine at_leaf (ls2 := [(112, .ref 207), (0, .int x1), (0, .int x2), (0, .int a3), (0, dV)]) h3.1 ⟨Or.inr ⟨_, (h3.2 0 rfl).trans rfl⟩, Or.inr ⟨_, (h3.2 1 rfl).trans rfl⟩, Or.inr ⟨_, (h3.2 2 rfl).trans rfl⟩, Or.inr n3, Or.inl ⟨rfl, n4⟩, trivial⟩ ?_
      exact s_R_fewestPersons_74 hcs x1 x2 a3 qb qe191 _ _ _ h hq
    cases h
  · intro v I2 _ h
    cases h
def K_R_fewestPersons_49 (x1 : Int32) (x2 : Int32) (x3 : Int32) : M ((Int32) ⊕ ((Unit))) :=
  bn (lp (B_R_fewestPersons_49 x1 x2) FU x3) fun e => K_R_fewestPersons_72 x1 x2
theorem s_R_fewestPersons_49 {d : Nat} (hcs : AllS L X d (cs_R_fewestPersons F_R_canCome F_R_greater F_R_has)) (x1 : Int32) (x2 : Int32) (x3 : Int32) {o : Option Value × PH} {Q : ((Int32) ⊕ ((Unit))) → MI → Prop} (qb : ∀ y I, Q (.inl y) I → At L X (d + 1) 283 39 [(112, .ref 207), (0, .int x1), (0, .int y), (0, dV), (0, dV)] [] I o) (qe191 : ∀ y I, Q (.inr y) I → At L X (d + 1) 283 191 [(112, .ref 207), (0, .int x1), (0, dV), (0, dV), (0, dV)] [] I o) (I : MI) (r : (Int32) ⊕ ((Unit))) (I1 : MI) (h : K_R_fewestPersons_49 x1 x2 x3 I = some (r, I1)) (hq : Q r I1) : At L X (d + 1) 283 49 [(112, .ref 207), (0, .int x1), (0, .int x2), (0, .int x3), (0, dV)] [] I o := by
  unfold K_R_fewestPersons_49 at h
  obtain ⟨e, I2, h1, h2⟩ := bn_some h
  have w0 := fun w => at_lp (body := B_R_fewestPersons_49 x1 x2) (P := (fun (y : Int32) I => At L X (d + 1) 283 49 [(112, .ref 207), (0, .int x1), (0, .int x2), (0, .int y), (0, dV)] [] I o)) (Q := (fun (e : (Unit)) I => (K_R_fewestPersons_72 x1 x2) I = some (r, I1))) w FU x3 I e I2 h1 h2
  refine w0 ?_
  intro y I r2 I3 h hq2
  exact b_R_fewestPersons_49 hcs x1 x2 (Q := SQ (fun (y : Int32) I => At L X (d + 1) 283 49 [(112, .ref 207), (0, .int x1), (0, .int x2), (0, .int y), (0, dV)] [] I o) (fun (e : (Unit)) I => (K_R_fewestPersons_72 x1 x2) I = some (r, I1))) (fun _ _ w => w) (fun y I w => s_R_fewestPersons_72 hcs x1 x2 qb qe191 _ _ _ w hq) y I r2 I3 h hq2
def B_R_fewestPersons_39 (x1 : Int32) (y : Int32) : M ((Int32) ⊕ ((Unit))) :=
  bn (rd 207 44) fun v1 =>
  (if y < v1 then
    K_R_fewestPersons_49 x1 y (0 : Int32)
  else
    rt (.inr ()))
set_option maxRecDepth 4000 in
theorem e_b_R_fewestPersons_39 (f_R_canCome : Int32 → Int32 → M Int32) (f_R_greater : Int32 → Int32 → M Int32) (f_R_has : Int32 → Int32 → M Int32) (k_49 : Int32 → Int32 → Int32 → M ((Int32) ⊕ ((Unit)))) (x1 : Int32) (y : Int32) : wf (β := (Int32) ⊕ ((Unit))) L X q_R_fewestPersons 1 (cs_R_fewestPersons f_R_canCome f_R_greater f_R_has) [3] [9, 37, 39, 49, 72, 74, 97, 154, 160, 162, 185, 191, 195] (fun pc ls st => mC (Nat.beq pc 49) (mN st <| gI ls 3 fun a3 => gD ls 4 <| k_49 x1 y a3) (mC (Nat.beq pc 191) (mN st <| gD ls 2 <| gD ls 3 <| gD ls 4 <| rt (.inr ())) (fl))) (fun _ => fl) 136 39 [(112, .ref 207), (0, .int x1), (0, .int y), (0, dV), (0, dV)] [] = (bn (rd 207 44) fun v1 =>
  (if y < v1 then
    k_49 x1 y (0 : Int32)
  else
    rt (.inr ()))) := rfl
theorem b_R_fewestPersons_39 {d : Nat} (hcs : AllS L X d (cs_R_fewestPersons F_R_canCome F_R_greater F_R_has)) (x1 : Int32) {o : Option Value × PH} {Q : ((Int32) ⊕ ((Unit))) → MI → Prop} (qb : ∀ y I, Q (.inl y) I → At L X (d + 1) 283 39 [(112, .ref 207), (0, .int x1), (0, .int y), (0, dV), (0, dV)] [] I o) (qe191 : ∀ y I, Q (.inr y) I → At L X (d + 1) 283 191 [(112, .ref 207), (0, .int x1), (0, dV), (0, dV), (0, dV)] [] I o) (y : Int32) (I : MI) (r : (Int32) ⊕ ((Unit))) (I1 : MI) (h : B_R_fewestPersons_39 x1 y I = some (r, I1)) (hq : Q r I1) : At L X (d + 1) 283 39 [(112, .ref 207), (0, .int x1), (0, .int y), (0, dV), (0, dV)] [] I o := by
  refine wf_ok z_R_fewestPersons hcs ?_ ?_ _ _ _ _ _ ⟨rfl, trivial, trivial, trivial, trivial, trivial⟩ trivial (unm_refl _ _) ((congrFun (e_b_R_fewestPersons_39 (L := L) (X := X) F_R_canCome F_R_greater F_R_has K_R_fewestPersons_49 x1 y) I).trans h)
  · intro pc ls st I2 h1 h2 h3 h
    rcases mC_ok h with ⟨hb, h⟩ | ⟨_, h⟩
    · have e := Nat.eq_of_beq_eq_true hb
      subst e
      obtain ⟨hst, h⟩ := mN_ok h
      subst hst
      obtain ⟨a3, n3, h⟩ := gI_ok h
      obtain ⟨n4, h⟩ := gD_ok h
      refine at_leaf (ls2 := [(112, .ref 207), (0, .int x1), (0, .int y), (0, .int a3), (0, dV)]) h3.1 ⟨Or.inr ⟨_, (h3.2 0 rfl).trans rfl⟩, Or.inr ⟨_, (h3.2 1 rfl).trans rfl⟩, Or.inr ⟨_, (h3.2 2 rfl).trans rfl⟩, Or.inr n3, Or.inl ⟨rfl, n4⟩, trivial⟩ ?_
      exact s_R_fewestPersons_49 hcs x1 y a3 qb qe191 _ _ _ h hq
    rcases mC_ok h with ⟨hb, h⟩ | ⟨_, h⟩
    · have e := Nat.eq_of_beq_eq_true hb
      subst e
      obtain ⟨hst, h⟩ := mN_ok h
      subst hst
      obtain ⟨n2, h⟩ := gD_ok h
      obtain ⟨n3, h⟩ := gD_ok h
      obtain ⟨n4, h⟩ := gD_ok h
      refine at_leaf (ls2 := [(112, .ref 207), (0, .int x1), (0, dV), (0, dV), (0, dV)]) h3.1 ⟨Or.inr ⟨_, (h3.2 0 rfl).trans rfl⟩, Or.inr ⟨_, (h3.2 1 rfl).trans rfl⟩, Or.inl ⟨rfl, n2⟩, Or.inl ⟨rfl, n3⟩, Or.inl ⟨rfl, n4⟩, trivial⟩ ?_
      cases h; exact qe191 _ _ hq
    cases h
  · intro v I2 _ h
    cases h
def B_R_fewestPersons_195 (x1 : Int32) (y : Int32 × Int32) : M ((Int32 × Int32) ⊕ (Int32)) :=
  (if y.2 < x1 then
    bn (ld 1024 233 y.2) fun v2 =>
    bn (F_R_greater y.1 v2) fun v3 =>
    rt (.inl (v3, (y.2 + (1 : Int32))))
  else
    bn (rd 207 44) fun v1 =>
    rt (.inr (v1 - y.1)))
set_option maxRecDepth 4000 in
theorem e_b_R_fewestPersons_195 (f_R_canCome : Int32 → Int32 → M Int32) (f_R_greater : Int32 → Int32 → M Int32) (f_R_has : Int32 → Int32 → M Int32) (x1 : Int32) (y : Int32 × Int32) : wf (β := (Int32 × Int32) ⊕ (Int32)) L X q_R_fewestPersons 1 (cs_R_fewestPersons f_R_canCome f_R_greater f_R_has) [2, 3] [9, 37, 39, 49, 72, 74, 97, 154, 160, 162, 185, 191, 195] (fun pc ls st => mC (Nat.beq pc 195) (mN st <| gI ls 2 fun a2 => gI ls 3 fun a3 => gD ls 4 <| rt (.inl (a2, a3))) (fl)) (fun v => match v with | some (_, .int x) => rt (.inr x) | _ => fl) 136 195 [(112, .ref 207), (0, .int x1), (0, .int y.1), (0, .int y.2), (0, dV)] [] = ((if y.2 < x1 then
    bn (ld 1024 233 y.2) fun v2 =>
    bn (f_R_greater y.1 v2) fun v3 =>
    rt (.inl (v3, (y.2 + (1 : Int32))))
  else
    bn (rd 207 44) fun v1 =>
    rt (.inr (v1 - y.1)))) := rfl
theorem b_R_fewestPersons_195 {d : Nat} (hcs : AllS L X d (cs_R_fewestPersons F_R_canCome F_R_greater F_R_has)) (x1 : Int32) {o : Option Value × PH} {Q : ((Int32 × Int32) ⊕ (Int32)) → MI → Prop} (qb : ∀ y I, Q (.inl y) I → At L X (d + 1) 283 195 [(112, .ref 207), (0, .int x1), (0, .int y.1), (0, .int y.2), (0, dV)] [] I o) (qr : ∀ v I, Q (.inr v) I → o = (some (.int v), HH I)) (y : Int32 × Int32) (I : MI) (r : (Int32 × Int32) ⊕ (Int32)) (I1 : MI) (h : B_R_fewestPersons_195 x1 y I = some (r, I1)) (hq : Q r I1) : At L X (d + 1) 283 195 [(112, .ref 207), (0, .int x1), (0, .int y.1), (0, .int y.2), (0, dV)] [] I o := by
  refine wf_ok z_R_fewestPersons hcs ?_ ?_ _ _ _ _ _ ⟨rfl, trivial, trivial, trivial, trivial, trivial⟩ trivial (unm_refl _ _) ((congrFun (e_b_R_fewestPersons_195 (L := L) (X := X) F_R_canCome F_R_greater F_R_has x1 y) I).trans h)
  · intro pc ls st I2 h1 h2 h3 h
    rcases mC_ok h with ⟨hb, h⟩ | ⟨_, h⟩
    · have e := Nat.eq_of_beq_eq_true hb
      subst e
      obtain ⟨hst, h⟩ := mN_ok h
      subst hst
      obtain ⟨a2, n2, h⟩ := gI_ok h
      obtain ⟨a3, n3, h⟩ := gI_ok h
      obtain ⟨n4, h⟩ := gD_ok h
      refine at_leaf (ls2 := [(112, .ref 207), (0, .int x1), (0, .int a2), (0, .int a3), (0, dV)]) h3.1 ⟨Or.inr ⟨_, (h3.2 0 rfl).trans rfl⟩, Or.inr ⟨_, (h3.2 1 rfl).trans rfl⟩, Or.inr n2, Or.inr n3, Or.inl ⟨rfl, n4⟩, trivial⟩ ?_
      cases h; exact qb _ _ hq
    cases h
  · intro v I2 _ h
    split at h
    · cases h; exact qr _ _ hq
    · cases h
def K_R_fewestPersons_195 (x1 : Int32) (x2 : Int32) (x3 : Int32) : M (Int32) :=
  lp (B_R_fewestPersons_195 x1) FU (x2, x3)
theorem s_R_fewestPersons_195 {d : Nat} (hcs : AllS L X d (cs_R_fewestPersons F_R_canCome F_R_greater F_R_has)) (x1 : Int32) (x2 : Int32) (x3 : Int32) {o : Option Value × PH} {Q : (Int32) → MI → Prop} (q0 : ∀ v I, Q v I → o = (some (.int v), HH I)) (I : MI) (r : Int32) (I1 : MI) (h : K_R_fewestPersons_195 x1 x2 x3 I = some (r, I1)) (hq : Q r I1) : At L X (d + 1) 283 195 [(112, .ref 207), (0, .int x1), (0, .int x2), (0, .int x3), (0, dV)] [] I o := by
  unfold K_R_fewestPersons_195 at h
  have w0 := fun w => at_lp (body := B_R_fewestPersons_195 x1) (P := (fun (y : Int32 × Int32) I => At L X (d + 1) 283 195 [(112, .ref 207), (0, .int x1), (0, .int y.1), (0, .int y.2), (0, dV)] [] I o)) (Q := (fun (e : Int32) I => Q e I)) w FU (x2, x3) I r I1 h hq
  refine w0 ?_
  intro y I r I1 h hq
  exact b_R_fewestPersons_195 hcs x1 (Q := SQ (fun (y : Int32 × Int32) I => At L X (d + 1) 283 195 [(112, .ref 207), (0, .int x1), (0, .int y.1), (0, .int y.2), (0, dV)] [] I o) (fun (e : Int32) I => Q e I)) (fun _ _ w => w) q0 y I r I1 h hq
def K_R_fewestPersons_191 (x1 : Int32) : M (Int32) :=
  K_R_fewestPersons_195 x1 (0 : Int32) (0 : Int32)
set_option maxRecDepth 4000 in
theorem e_s_R_fewestPersons_191 (f_R_canCome : Int32 → Int32 → M Int32) (f_R_greater : Int32 → Int32 → M Int32) (f_R_has : Int32 → Int32 → M Int32) (k_195 : Int32 → Int32 → Int32 → M (Int32)) (x1 : Int32) : wf (β := Int32) L X q_R_fewestPersons 1 (cs_R_fewestPersons f_R_canCome f_R_greater f_R_has) [2, 3] [9, 37, 39, 49, 72, 74, 97, 154, 160, 162, 185, 191, 195] (fun pc ls st => mC (Nat.beq pc 195) (mN st <| gI ls 2 fun a2 => gI ls 3 fun a3 => gD ls 4 <| k_195 x1 a2 a3) (fl)) (fun v => match v with | some (_, .int x) => rt x | _ => fl) 136 191 [(112, .ref 207), (0, .int x1), (0, dV), (0, dV), (0, dV)] [] = (k_195 x1 (0 : Int32) (0 : Int32)) := rfl
theorem s_R_fewestPersons_191 {d : Nat} (hcs : AllS L X d (cs_R_fewestPersons F_R_canCome F_R_greater F_R_has)) (x1 : Int32) {o : Option Value × PH} {Q : (Int32) → MI → Prop} (q0 : ∀ v I, Q v I → o = (some (.int v), HH I)) (I : MI) (r : Int32) (I1 : MI) (h : K_R_fewestPersons_191 x1 I = some (r, I1)) (hq : Q r I1) : At L X (d + 1) 283 191 [(112, .ref 207), (0, .int x1), (0, dV), (0, dV), (0, dV)] [] I o := by
  refine wf_ok z_R_fewestPersons hcs ?_ ?_ _ _ _ _ _ ⟨rfl, trivial, trivial, trivial, trivial, trivial⟩ trivial (unm_refl _ _) ((congrFun (e_s_R_fewestPersons_191 (L := L) (X := X) F_R_canCome F_R_greater F_R_has K_R_fewestPersons_195 x1) I).trans h)
  · intro pc ls st I2 h1 h2 h3 h
    rcases mC_ok h with ⟨hb, h⟩ | ⟨_, h⟩
    · have e := Nat.eq_of_beq_eq_true hb
      subst e
      obtain ⟨hst, h⟩ := mN_ok h
      subst hst
      obtain ⟨a2, n2, h⟩ := gI_ok h
      obtain ⟨a3, n3, h⟩ := gI_ok h
      obtain ⟨n4, h⟩ := gD_ok h
      refine at_leaf (ls2 := [(112, .ref 207), (0, .int x1), (0, .int a2), (0, .int a3), (0, dV)]) h3.1 ⟨Or.inr ⟨_, (h3.2 0 rfl).trans rfl⟩, Or.inr ⟨_, (h3.2 1 rfl).trans rfl⟩, Or.inr n2, Or.inr n3, Or.inl ⟨rfl, n4⟩, trivial⟩ ?_
      exact s_R_fewestPersons_195 hcs x1 a2 a3 q0 _ _ _ h hq
    cases h
  · intro v I2 _ h
    split at h
    · cases h; exact q0 _ _ hq
    · cases h
def K_R_fewestPersons_39 (x1 : Int32) (x2 : Int32) : M (Int32) :=
  bn (lp (B_R_fewestPersons_39 x1) FU x2) fun e => K_R_fewestPersons_191 x1
theorem s_R_fewestPersons_39 {d : Nat} (hcs : AllS L X d (cs_R_fewestPersons F_R_canCome F_R_greater F_R_has)) (x1 : Int32) (x2 : Int32) {o : Option Value × PH} {Q : (Int32) → MI → Prop} (q0 : ∀ v I, Q v I → o = (some (.int v), HH I)) (I : MI) (r : Int32) (I1 : MI) (h : K_R_fewestPersons_39 x1 x2 I = some (r, I1)) (hq : Q r I1) : At L X (d + 1) 283 39 [(112, .ref 207), (0, .int x1), (0, .int x2), (0, dV), (0, dV)] [] I o := by
  unfold K_R_fewestPersons_39 at h
  obtain ⟨e, I2, h1, h2⟩ := bn_some h
  have w0 := fun w => at_lp (body := B_R_fewestPersons_39 x1) (P := (fun (y : Int32) I => At L X (d + 1) 283 39 [(112, .ref 207), (0, .int x1), (0, .int y), (0, dV), (0, dV)] [] I o)) (Q := (fun (e : (Unit)) I => (K_R_fewestPersons_191 x1) I = some (r, I1))) w FU x2 I e I2 h1 h2
  refine w0 ?_
  intro y I r2 I3 h hq2
  exact b_R_fewestPersons_39 hcs x1 (Q := SQ (fun (y : Int32) I => At L X (d + 1) 283 39 [(112, .ref 207), (0, .int x1), (0, .int y), (0, dV), (0, dV)] [] I o) (fun (e : (Unit)) I => (K_R_fewestPersons_191 x1) I = some (r, I1))) (fun _ _ w => w) (fun y I w => s_R_fewestPersons_191 hcs x1 q0 _ _ _ w hq) y I r2 I3 h hq2
def K_R_fewestPersons_37 (x1 : Int32) : M (Int32) :=
  K_R_fewestPersons_39 x1 (0 : Int32)
set_option maxRecDepth 4000 in
theorem e_s_R_fewestPersons_37 (f_R_canCome : Int32 → Int32 → M Int32) (f_R_greater : Int32 → Int32 → M Int32) (f_R_has : Int32 → Int32 → M Int32) (k_39 : Int32 → Int32 → M (Int32)) (x1 : Int32) : wf (β := Int32) L X q_R_fewestPersons 1 (cs_R_fewestPersons f_R_canCome f_R_greater f_R_has) [2] [9, 37, 39, 49, 72, 74, 97, 154, 160, 162, 185, 191, 195] (fun pc ls st => mC (Nat.beq pc 39) (mN st <| gI ls 2 fun a2 => gD ls 3 <| gD ls 4 <| k_39 x1 a2) (fl)) (fun v => match v with | some (_, .int x) => rt x | _ => fl) 136 37 [(112, .ref 207), (0, .int x1), (0, dV), (0, dV), (0, dV)] [] = (k_39 x1 (0 : Int32)) := rfl
theorem s_R_fewestPersons_37 {d : Nat} (hcs : AllS L X d (cs_R_fewestPersons F_R_canCome F_R_greater F_R_has)) (x1 : Int32) {o : Option Value × PH} {Q : (Int32) → MI → Prop} (q0 : ∀ v I, Q v I → o = (some (.int v), HH I)) (I : MI) (r : Int32) (I1 : MI) (h : K_R_fewestPersons_37 x1 I = some (r, I1)) (hq : Q r I1) : At L X (d + 1) 283 37 [(112, .ref 207), (0, .int x1), (0, dV), (0, dV), (0, dV)] [] I o := by
  refine wf_ok z_R_fewestPersons hcs ?_ ?_ _ _ _ _ _ ⟨rfl, trivial, trivial, trivial, trivial, trivial⟩ trivial (unm_refl _ _) ((congrFun (e_s_R_fewestPersons_37 (L := L) (X := X) F_R_canCome F_R_greater F_R_has K_R_fewestPersons_39 x1) I).trans h)
  · intro pc ls st I2 h1 h2 h3 h
    rcases mC_ok h with ⟨hb, h⟩ | ⟨_, h⟩
    · have e := Nat.eq_of_beq_eq_true hb
      subst e
      obtain ⟨hst, h⟩ := mN_ok h
      subst hst
      obtain ⟨a2, n2, h⟩ := gI_ok h
      obtain ⟨n3, h⟩ := gD_ok h
      obtain ⟨n4, h⟩ := gD_ok h
      refine at_leaf (ls2 := [(112, .ref 207), (0, .int x1), (0, .int a2), (0, dV), (0, dV)]) h3.1 ⟨Or.inr ⟨_, (h3.2 0 rfl).trans rfl⟩, Or.inr ⟨_, (h3.2 1 rfl).trans rfl⟩, Or.inr n2, Or.inl ⟨rfl, n3⟩, Or.inl ⟨rfl, n4⟩, trivial⟩ ?_
      exact s_R_fewestPersons_39 hcs x1 a2 q0 _ _ _ h hq
    cases h
  · intro v I2 _ h
    split at h
    · cases h; exact q0 _ _ hq
    · cases h
def K_R_fewestPersons_9 (x1 : Int32) (x2 : Int32) : M (Int32) :=
  bn (lp (B_R_fewestPersons_9 x1) FU x2) fun e => K_R_fewestPersons_37 x1
theorem s_R_fewestPersons_9 {d : Nat} (hcs : AllS L X d (cs_R_fewestPersons F_R_canCome F_R_greater F_R_has)) (x1 : Int32) (x2 : Int32) {o : Option Value × PH} {Q : (Int32) → MI → Prop} (q0 : ∀ v I, Q v I → o = (some (.int v), HH I)) (I : MI) (r : Int32) (I1 : MI) (h : K_R_fewestPersons_9 x1 x2 I = some (r, I1)) (hq : Q r I1) : At L X (d + 1) 283 9 [(112, .ref 207), (0, .int x1), (0, .int x2), (0, dV), (0, dV)] [] I o := by
  unfold K_R_fewestPersons_9 at h
  obtain ⟨e, I2, h1, h2⟩ := bn_some h
  have w0 := fun w => at_lp (body := B_R_fewestPersons_9 x1) (P := (fun (y : Int32) I => At L X (d + 1) 283 9 [(112, .ref 207), (0, .int x1), (0, .int y), (0, dV), (0, dV)] [] I o)) (Q := (fun (e : (Unit)) I => (K_R_fewestPersons_37 x1) I = some (r, I1))) w FU x2 I e I2 h1 h2
  refine w0 ?_
  intro y I r2 I3 h hq2
  exact b_R_fewestPersons_9 hcs x1 (Q := SQ (fun (y : Int32) I => At L X (d + 1) 283 9 [(112, .ref 207), (0, .int x1), (0, .int y), (0, dV), (0, dV)] [] I o) (fun (e : (Unit)) I => (K_R_fewestPersons_37 x1) I = some (r, I1))) (fun _ _ w => w) (fun y I w => s_R_fewestPersons_37 hcs x1 q0 _ _ _ w hq) y I r2 I3 h hq2
def F_R_fewestPersons : M (Int32) :=
  bn (rd 207 44) fun v1 =>
  K_R_fewestPersons_9 ((1 : Int32) <<< (v1 &&& 31)) (0 : Int32)
set_option maxRecDepth 4000 in
theorem e_s_R_fewestPersons_0 (f_R_canCome : Int32 → Int32 → M Int32) (f_R_greater : Int32 → Int32 → M Int32) (f_R_has : Int32 → Int32 → M Int32) (k_9 : Int32 → Int32 → M (Int32)) : wf (β := Int32) L X q_R_fewestPersons 1 (cs_R_fewestPersons f_R_canCome f_R_greater f_R_has) [1, 2] [9, 37, 39, 49, 72, 74, 97, 154, 160, 162, 185, 191, 195] (fun pc ls st => mC (Nat.beq pc 9) (mN st <| gI ls 1 fun a1 => gI ls 2 fun a2 => gD ls 3 <| gD ls 4 <| k_9 a1 a2) (fl)) (fun v => match v with | some (_, .int x) => rt x | _ => fl) 136 0 [(112, .ref 207), (0, dV), (0, dV), (0, dV), (0, dV)] [] = (bn (rd 207 44) fun v1 =>
  k_9 ((1 : Int32) <<< (v1 &&& 31)) (0 : Int32)) := rfl
theorem s_R_fewestPersons_0 {d : Nat} (hcs : AllS L X d (cs_R_fewestPersons F_R_canCome F_R_greater F_R_has)) {o : Option Value × PH} {Q : (Int32) → MI → Prop} (q0 : ∀ v I, Q v I → o = (some (.int v), HH I)) (I : MI) (r : Int32) (I1 : MI) (h : F_R_fewestPersons I = some (r, I1)) (hq : Q r I1) : At L X (d + 1) 283 0 [(112, .ref 207), (0, dV), (0, dV), (0, dV), (0, dV)] [] I o := by
  refine wf_ok z_R_fewestPersons hcs ?_ ?_ _ _ _ _ _ ⟨rfl, trivial, trivial, trivial, trivial, trivial⟩ trivial (unm_refl _ _) ((congrFun (e_s_R_fewestPersons_0 (L := L) (X := X) F_R_canCome F_R_greater F_R_has K_R_fewestPersons_9) I).trans h)
  · intro pc ls st I2 h1 h2 h3 h
    rcases mC_ok h with ⟨hb, h⟩ | ⟨_, h⟩
    · have e := Nat.eq_of_beq_eq_true hb
      subst e
      obtain ⟨hst, h⟩ := mN_ok h
      subst hst
      obtain ⟨a1, n1, h⟩ := gI_ok h
      obtain ⟨a2, n2, h⟩ := gI_ok h
      obtain ⟨n3, h⟩ := gD_ok h
      obtain ⟨n4, h⟩ := gD_ok h
      refine at_leaf (ls2 := [(112, .ref 207), (0, .int a1), (0, .int a2), (0, dV), (0, dV)]) h3.1 ⟨Or.inr ⟨_, (h3.2 0 rfl).trans rfl⟩, Or.inr n1, Or.inr n2, Or.inl ⟨rfl, n3⟩, Or.inl ⟨rfl, n4⟩, trivial⟩ ?_
      exact s_R_fewestPersons_9 hcs a1 a2 q0 _ _ _ h hq
    cases h
  · intro v I2 _ h
    split at h
    · cases h; exact q0 _ _ hq
    · cases h
theorem w_R_fewestPersons {d : Nat} (hcs : AllS L X d (cs_R_fewestPersons F_R_canCome F_R_greater F_R_has)) : Snd L X (d + 1) 283 1 (W_R_fewestPersons F_R_fewestPersons) := by
  refine ⟨_, z_R_fewestPersons, rfl, fun β args k I r hty hlen h => ?_⟩
  unfold W_R_fewestPersons at h
  split at h
  · rename_i t0 a0
    obtain ⟨hb0, h⟩ := mB_ok h
    have e0 := Nat.eq_of_beq_eq_true hb0
    have g0 : okB 112 a0 = true := e0 ▸ hty.1
    have e20 := one_112 g0
    subst e20
    obtain ⟨v, I1, h1, h2⟩ := bn_some h
    refine ⟨gf_obj (c := 12) (by decide) g0, rfl, some (0, .int v), I1, trivial, ?_, h2⟩
    exact s_R_fewestPersons_0 hcs   (Q := fun w I => w = v ∧ I = I1) (fun w I q => by obtain ⟨rfl, rfl⟩ := q; rfl) I v I1 h1 ⟨rfl, rfl⟩
  · cases h
theorem S_R_fewestPersons {d : Nat} (hd : 4 ≤ d) : Snd L X d 283 1 (W_R_fewestPersons F_R_fewestPersons) := by
  obtain ⟨e, rfl⟩ : ∃ e, d = e + 1 := ⟨d - 1, by omega⟩
  exact w_R_fewestPersons ⟨S_R_canCome (by omega), S_R_greater (by omega), S_R_has (by omega), trivial⟩
set_option maxRecDepth 100000 in
theorem z_R_persons : pT[282]? = some (q_R_persons, 3, 4, 1, 12) := rfl
def W_R_persons (F : Int32 → Int32 → M Int32) : CSem := fun _ args k => match args with
  | [(t0, .ref a0), (_, .int a1), (_, .int a2)] => mB (Nat.beq t0 112) <| bn (F a1 a2) fun v => k (some (0, .int v))
  | _ => fl
def cs_R_persons (f_R_fewestPersons : M Int32) (f_R_isStreet : Int32 → M Int32) (f_R_wayOf : Int32 → Int32 → M Int32) : List (Nat × Nat × CSem) := [(283, 1, W_R_fewestPersons f_R_fewestPersons), (198, 2, W_R_isStreet f_R_isStreet), (285, 3, W_R_wayOf f_R_wayOf)]
def F_R_persons (x1 : Int32) (x2 : Int32) : M (Int32) :=
  bn (wr 207 0 (0 : Int32)) fun _ =>
  (if x1 = (-1 : Int32) then
    bn (F_R_fewestPersons) fun v4 =>
    rt v4
  else
    bn (F_R_isStreet x1) fun v1 =>
    (if v1 = 0 then
      rt (-1 : Int32)
    else
      bn (F_R_isStreet x2) fun v2 =>
      (if v2 = 0 then
        rt (-1 : Int32)
      else
        bn (F_R_wayOf x1 x2) fun v3 =>
        (if v3 = (100000000 : Int32) then
          rt (-1 : Int32)
        else
          rt v3))))
set_option maxRecDepth 4000 in
theorem e_s_R_persons_0 (f_R_fewestPersons : M Int32) (f_R_isStreet : Int32 → M Int32) (f_R_wayOf : Int32 → Int32 → M Int32) (x1 : Int32) (x2 : Int32) : wf (β := Int32) L X q_R_persons 1 (cs_R_persons f_R_fewestPersons f_R_isStreet f_R_wayOf) [3] [] (fun _ _ _ => fl) (fun v => match v with | some (_, .int x) => rt x | _ => fl) 36 0 [(112, .ref 207), (0, .int x1), (0, .int x2), (0, dV)] [] = (bn (wr 207 0 (0 : Int32)) fun _ =>
  (if x1 = (-1 : Int32) then
    bn (f_R_fewestPersons) fun v4 =>
    rt v4
  else
    bn (f_R_isStreet x1) fun v1 =>
    (if v1 = 0 then
      rt (-1 : Int32)
    else
      bn (f_R_isStreet x2) fun v2 =>
      (if v2 = 0 then
        rt (-1 : Int32)
      else
        bn (f_R_wayOf x1 x2) fun v3 =>
        (if v3 = (100000000 : Int32) then
          rt (-1 : Int32)
        else
          rt v3))))) := rfl
theorem s_R_persons_0 {d : Nat} (hcs : AllS L X d (cs_R_persons F_R_fewestPersons F_R_isStreet F_R_wayOf)) (x1 : Int32) (x2 : Int32) {o : Option Value × PH} {Q : (Int32) → MI → Prop} (q0 : ∀ v I, Q v I → o = (some (.int v), HH I)) (I : MI) (r : Int32) (I1 : MI) (h : F_R_persons x1 x2 I = some (r, I1)) (hq : Q r I1) : At L X (d + 1) 282 0 [(112, .ref 207), (0, .int x1), (0, .int x2), (0, dV)] [] I o := by
  refine wf_ok z_R_persons hcs ?_ ?_ _ _ _ _ _ ⟨rfl, trivial, trivial, trivial, trivial⟩ trivial (unm_refl _ _) ((congrFun (e_s_R_persons_0 (L := L) (X := X) F_R_fewestPersons F_R_isStreet F_R_wayOf x1 x2) I).trans h)
  · intro pc ls st I2 h1 h2 h3 h
    cases h
  · intro v I2 _ h
    split at h
    · cases h; exact q0 _ _ hq
    · cases h
theorem w_R_persons {d : Nat} (hcs : AllS L X d (cs_R_persons F_R_fewestPersons F_R_isStreet F_R_wayOf)) : Snd L X (d + 1) 282 3 (W_R_persons F_R_persons) := by
  refine ⟨_, z_R_persons, rfl, fun β args k I r hty hlen h => ?_⟩
  unfold W_R_persons at h
  split at h
  · rename_i t0 a0 u1 a1 u2 a2
    obtain ⟨hb0, h⟩ := mB_ok h
    have e0 := Nat.eq_of_beq_eq_true hb0
    have g0 : okB 112 a0 = true := e0 ▸ hty.1
    have e20 := one_112 g0
    subst e20
    obtain ⟨v, I1, h1, h2⟩ := bn_some h
    refine ⟨gf_obj (c := 12) (by decide) g0, rfl, some (0, .int v), I1, trivial, ?_, h2⟩
    exact s_R_persons_0 hcs a1 a2  (Q := fun w I => w = v ∧ I = I1) (fun w I q => by obtain ⟨rfl, rfl⟩ := q; rfl) I v I1 h1 ⟨rfl, rfl⟩
  · cases h
theorem S_R_persons {d : Nat} (hd : 5 ≤ d) : Snd L X d 282 3 (W_R_persons F_R_persons) := by
  obtain ⟨e, rfl⟩ : ∃ e, d = e + 1 := ⟨d - 1, by omega⟩
  exact w_R_persons ⟨S_R_fewestPersons (by omega), S_R_isStreet (by omega), S_R_wayOf (by omega), trivial⟩
set_option maxRecDepth 100000 in
theorem z_R_says : pT[293]? = some (q_R_says, 4, 4, 1, 12) := rfl
def W_R_says (F : Int32 → Int32 → Int32 → M Int32) : CSem := fun _ args k => match args with
  | [(t0, .ref a0), (_, .int a1), (_, .int a2), (_, .int a3)] => mB (Nat.beq t0 112) <| bn (F a1 a2 a3) fun v => k (some (0, .int v))
  | _ => fl
def cs_R_says (f_R_isIn : Int32 → Int32 → Int32 → M Int32) : List (Nat × Nat × CSem) := [(195, 4, W_R_isIn f_R_isIn)]
def F_R_says (x1 : Int32) (x2 : Int32) (x3 : Int32) : M (Int32) :=
  bn (wr 207 0 (0 : Int32)) fun _ =>
  (if x1 = (-1 : Int32) then
    bn (wr 207 53 (0 : Int32)) fun _ =>
    rt (0 : Int32)
  else
    bn (F_R_isIn x1 (0 : Int32) (7 : Int32)) fun v1 =>
    (if v1 = 0 then
      rt (-1 : Int32)
    else
      bn (F_R_isIn x2 (0 : Int32) (7 : Int32)) fun v2 =>
      (if v2 = 0 then
        rt (-1 : Int32)
      else
        bn (rd 207 53) fun v3 =>
        (if v3 = (10 : Int32) then
          rt (-1 : Int32)
        else
          bn (rd 207 53) fun v4 =>
          bn (sr 10 238 v4 x1) fun _ =>
          bn (rd 207 53) fun v5 =>
          bn (sr 10 239 v5 x2) fun _ =>
          bn (rd 207 53) fun v6 =>
          (if x3 = 0 then
            bn (sr 10 240 v6 (0 : Int32)) fun _ =>
            bn (rd 207 53) fun v7 =>
            bn (wr 207 53 (v7 + (1 : Int32))) fun _ =>
            bn (rd 207 53) fun v8 =>
            rt v8
          else
            bn (sr 10 240 v6 (1 : Int32)) fun _ =>
            bn (rd 207 53) fun v9 =>
            bn (wr 207 53 (v9 + (1 : Int32))) fun _ =>
            bn (rd 207 53) fun v10 =>
            rt v10)))))
set_option maxRecDepth 4000 in
theorem e_s_R_says_0 (f_R_isIn : Int32 → Int32 → Int32 → M Int32) (x1 : Int32) (x2 : Int32) (x3 : Int32) : wf (β := Int32) L X q_R_says 1 (cs_R_says f_R_isIn) [] [] (fun _ _ _ => fl) (fun v => match v with | some (_, .int x) => rt x | _ => fl) 65 0 [(112, .ref 207), (0, .int x1), (0, .int x2), (0, .int x3)] [] = (bn (wr 207 0 (0 : Int32)) fun _ =>
  (if x1 = (-1 : Int32) then
    bn (wr 207 53 (0 : Int32)) fun _ =>
    rt (0 : Int32)
  else
    bn (f_R_isIn x1 (0 : Int32) (7 : Int32)) fun v1 =>
    (if v1 = 0 then
      rt (-1 : Int32)
    else
      bn (f_R_isIn x2 (0 : Int32) (7 : Int32)) fun v2 =>
      (if v2 = 0 then
        rt (-1 : Int32)
      else
        bn (rd 207 53) fun v3 =>
        (if v3 = (10 : Int32) then
          rt (-1 : Int32)
        else
          bn (rd 207 53) fun v4 =>
          bn (sr 10 238 v4 x1) fun _ =>
          bn (rd 207 53) fun v5 =>
          bn (sr 10 239 v5 x2) fun _ =>
          bn (rd 207 53) fun v6 =>
          (if x3 = 0 then
            bn (sr 10 240 v6 (0 : Int32)) fun _ =>
            bn (rd 207 53) fun v7 =>
            bn (wr 207 53 (v7 + (1 : Int32))) fun _ =>
            bn (rd 207 53) fun v8 =>
            rt v8
          else
            bn (sr 10 240 v6 (1 : Int32)) fun _ =>
            bn (rd 207 53) fun v9 =>
            bn (wr 207 53 (v9 + (1 : Int32))) fun _ =>
            bn (rd 207 53) fun v10 =>
            rt v10)))))) := rfl
theorem s_R_says_0 {d : Nat} (hcs : AllS L X d (cs_R_says F_R_isIn)) (x1 : Int32) (x2 : Int32) (x3 : Int32) {o : Option Value × PH} {Q : (Int32) → MI → Prop} (q0 : ∀ v I, Q v I → o = (some (.int v), HH I)) (I : MI) (r : Int32) (I1 : MI) (h : F_R_says x1 x2 x3 I = some (r, I1)) (hq : Q r I1) : At L X (d + 1) 293 0 [(112, .ref 207), (0, .int x1), (0, .int x2), (0, .int x3)] [] I o := by
  refine wf_ok z_R_says hcs ?_ ?_ _ _ _ _ _ ⟨rfl, trivial, trivial, trivial, trivial⟩ trivial (unm_refl _ _) ((congrFun (e_s_R_says_0 (L := L) (X := X) F_R_isIn x1 x2 x3) I).trans h)
  · intro pc ls st I2 h1 h2 h3 h
    cases h
  · intro v I2 _ h
    split at h
    · cases h; exact q0 _ _ hq
    · cases h
theorem w_R_says {d : Nat} (hcs : AllS L X d (cs_R_says F_R_isIn)) : Snd L X (d + 1) 293 4 (W_R_says F_R_says) := by
  refine ⟨_, z_R_says, rfl, fun β args k I r hty hlen h => ?_⟩
  unfold W_R_says at h
  split at h
  · rename_i t0 a0 u1 a1 u2 a2 u3 a3
    obtain ⟨hb0, h⟩ := mB_ok h
    have e0 := Nat.eq_of_beq_eq_true hb0
    have g0 : okB 112 a0 = true := e0 ▸ hty.1
    have e20 := one_112 g0
    subst e20
    obtain ⟨v, I1, h1, h2⟩ := bn_some h
    refine ⟨gf_obj (c := 12) (by decide) g0, rfl, some (0, .int v), I1, trivial, ?_, h2⟩
    exact s_R_says_0 hcs a1 a2 a3  (Q := fun w I => w = v ∧ I = I1) (fun w I q => by obtain ⟨rfl, rfl⟩ := q; rfl) I v I1 h1 ⟨rfl, rfl⟩
  · cases h
theorem S_R_says {d : Nat} (hd : 2 ≤ d) : Snd L X d 293 4 (W_R_says F_R_says) := by
  obtain ⟨e, rfl⟩ : ∃ e, d = e + 1 := ⟨d - 1, by omega⟩
  exact w_R_says ⟨S_R_isIn (by omega), trivial⟩
set_option maxRecDepth 100000 in
theorem z_R_canSet : pT[200]? = some (q_R_canSet, 4, 4, 2, 12) := rfl
def W_R_canSet (F : Int32 → Int32 → Int32 → M Int32) : CSem := fun _ args k => match args with
  | [(t0, .ref a0), (_, .int a1), (_, .int a2), (_, .int a3)] => mB (Nat.beq t0 112) <| bn (F a1 a2 a3) fun v => k (some (0, .int v))
  | _ => fl
def cs_R_canSet (f_R_isAlias : Int32 → M Int32) (f_R_isIn : Int32 → Int32 → Int32 → M Int32) (f_R_isPerson : Int32 → M Int32) (f_R_isStreet : Int32 → M Int32) : List (Nat × Nat × CSem) := [(201, 2, W_R_isAlias f_R_isAlias), (195, 4, W_R_isIn f_R_isIn), (197, 2, W_R_isPerson f_R_isPerson), (198, 2, W_R_isStreet f_R_isStreet)]
def K_R_canSet_39 (x1 : Int32) (x2 : Int32) (x3 : Int32) : M (Int32) :=
  bn (F_R_isPerson x2) fun v1 =>
  (if v1 = 0 then
    bn (gdZ (0 : Int32)) fun _ => rt (0 : Int32)
  else
    (if x1 = (1 : Int32) then
      bn (F_R_isIn x3 (0 : Int32) (9 : Int32)) fun v3 =>
      (if v3 = 0 then
        bn (gdZ (0 : Int32)) fun _ => rt (0 : Int32)
      else
        bn (gdZ (1 : Int32)) fun _ => rt (1 : Int32))
    else
      bn (F_R_isIn x3 (0 : Int32) (9999 : Int32)) fun v2 =>
      (if v2 = 0 then
        bn (gdZ (0 : Int32)) fun _ => rt (0 : Int32)
      else
        bn (gdZ (1 : Int32)) fun _ => rt (1 : Int32))))
set_option maxRecDepth 4000 in
theorem e_s_R_canSet_39 (f_R_isAlias : Int32 → M Int32) (f_R_isIn : Int32 → Int32 → Int32 → M Int32) (f_R_isPerson : Int32 → M Int32) (f_R_isStreet : Int32 → M Int32) (x1 : Int32) (x2 : Int32) (x3 : Int32) : wf (β := Int32) L X q_R_canSet 2 (cs_R_canSet f_R_isAlias f_R_isIn f_R_isPerson f_R_isStreet) [] [39] (fun _ _ _ => fl) (fun v => match v with | some (_, .int x) => rt x | _ => fl) 71 39 [(112, .ref 207), (0, .int x1), (0, .int x2), (0, .int x3)] [] = (bn (f_R_isPerson x2) fun v1 =>
  (if v1 = 0 then
    bn (gdZ (0 : Int32)) fun _ => rt (0 : Int32)
  else
    (if x1 = (1 : Int32) then
      bn (f_R_isIn x3 (0 : Int32) (9 : Int32)) fun v3 =>
      (if v3 = 0 then
        bn (gdZ (0 : Int32)) fun _ => rt (0 : Int32)
      else
        bn (gdZ (1 : Int32)) fun _ => rt (1 : Int32))
    else
      bn (f_R_isIn x3 (0 : Int32) (9999 : Int32)) fun v2 =>
      (if v2 = 0 then
        bn (gdZ (0 : Int32)) fun _ => rt (0 : Int32)
      else
        bn (gdZ (1 : Int32)) fun _ => rt (1 : Int32))))) := rfl
theorem s_R_canSet_39 {d : Nat} (hcs : AllS L X d (cs_R_canSet F_R_isAlias F_R_isIn F_R_isPerson F_R_isStreet)) (x1 : Int32) (x2 : Int32) (x3 : Int32) {o : Option Value × PH} {Q : (Int32) → MI → Prop} (q0 : ∀ v I, Q v I → o = (some (.int v), HH I)) (I : MI) (r : Int32) (I1 : MI) (h : K_R_canSet_39 x1 x2 x3 I = some (r, I1)) (hq : Q r I1) : At L X (d + 1) 200 39 [(112, .ref 207), (0, .int x1), (0, .int x2), (0, .int x3)] [] I o := by
  refine wf_ok z_R_canSet hcs ?_ ?_ _ _ _ _ _ ⟨rfl, trivial, trivial, trivial, trivial⟩ trivial (unm_refl _ _) ((congrFun (e_s_R_canSet_39 (L := L) (X := X) F_R_isAlias F_R_isIn F_R_isPerson F_R_isStreet x1 x2 x3) I).trans h)
  · intro pc ls st I2 h1 h2 h3 h
    cases h
  · intro v I2 _ h
    split at h
    · cases h; exact q0 _ _ hq
    · cases h
def F_R_canSet (x1 : Int32) (x2 : Int32) (x3 : Int32) : M (Int32) :=
  (if x1 = 0 then
    bn (F_R_isStreet x2) fun v5 =>
    (if v5 = 0 then
      bn (gdZ (0 : Int32)) fun _ => rt (0 : Int32)
    else
      bn (F_R_isIn x3 (0 : Int32) (9 : Int32)) fun v6 =>
      (if v6 = 0 then
        bn (gdZ (0 : Int32)) fun _ => rt (0 : Int32)
      else
        bn (gdZ (1 : Int32)) fun _ => rt (1 : Int32)))
  else
    (if x1 = (1 : Int32) then
      K_R_canSet_39 x1 x2 x3
    else
      (if x1 = (2 : Int32) then
        K_R_canSet_39 x1 x2 x3
      else
        bn (F_R_isIn x1 (3 : Int32) (4 : Int32)) fun v1 =>
        (if v1 = 0 then
          bn (gdZ (0 : Int32)) fun _ => rt (0 : Int32)
        else
          bn (F_R_isAlias x2) fun v2 =>
          (if v2 = 0 then
            bn (gdZ (0 : Int32)) fun _ => rt (0 : Int32)
          else
            (if x1 = (3 : Int32) then
              bn (F_R_isIn x3 (0 : Int32) (9 : Int32)) fun v4 =>
              (if v4 = 0 then
                bn (gdZ (0 : Int32)) fun _ => rt (0 : Int32)
              else
                bn (gdZ (1 : Int32)) fun _ => rt (1 : Int32))
            else
              bn (F_R_isIn x3 (0 : Int32) (99 : Int32)) fun v3 =>
              (if v3 = 0 then
                bn (gdZ (0 : Int32)) fun _ => rt (0 : Int32)
              else
                bn (gdZ (1 : Int32)) fun _ => rt (1 : Int32))))))))
set_option maxRecDepth 4000 in
theorem e_s_R_canSet_0 (f_R_isAlias : Int32 → M Int32) (f_R_isIn : Int32 → Int32 → Int32 → M Int32) (f_R_isPerson : Int32 → M Int32) (f_R_isStreet : Int32 → M Int32) (k_39 : Int32 → Int32 → Int32 → M (Int32)) (x1 : Int32) (x2 : Int32) (x3 : Int32) : wf (β := Int32) L X q_R_canSet 2 (cs_R_canSet f_R_isAlias f_R_isIn f_R_isPerson f_R_isStreet) [] [39] (fun pc ls st => mC (Nat.beq pc 39) (mN st <| k_39 x1 x2 x3) (fl)) (fun v => match v with | some (_, .int x) => rt x | _ => fl) 71 0 [(112, .ref 207), (0, .int x1), (0, .int x2), (0, .int x3)] [] = ((if x1 = 0 then
    bn (f_R_isStreet x2) fun v5 =>
    (if v5 = 0 then
      bn (gdZ (0 : Int32)) fun _ => rt (0 : Int32)
    else
      bn (f_R_isIn x3 (0 : Int32) (9 : Int32)) fun v6 =>
      (if v6 = 0 then
        bn (gdZ (0 : Int32)) fun _ => rt (0 : Int32)
      else
        bn (gdZ (1 : Int32)) fun _ => rt (1 : Int32)))
  else
    (if x1 = (1 : Int32) then
      k_39 x1 x2 x3
    else
      (if x1 = (2 : Int32) then
        k_39 x1 x2 x3
      else
        bn (f_R_isIn x1 (3 : Int32) (4 : Int32)) fun v1 =>
        (if v1 = 0 then
          bn (gdZ (0 : Int32)) fun _ => rt (0 : Int32)
        else
          bn (f_R_isAlias x2) fun v2 =>
          (if v2 = 0 then
            bn (gdZ (0 : Int32)) fun _ => rt (0 : Int32)
          else
            (if x1 = (3 : Int32) then
              bn (f_R_isIn x3 (0 : Int32) (9 : Int32)) fun v4 =>
              (if v4 = 0 then
                bn (gdZ (0 : Int32)) fun _ => rt (0 : Int32)
              else
                bn (gdZ (1 : Int32)) fun _ => rt (1 : Int32))
            else
              bn (f_R_isIn x3 (0 : Int32) (99 : Int32)) fun v3 =>
              (if v3 = 0 then
                bn (gdZ (0 : Int32)) fun _ => rt (0 : Int32)
              else
                bn (gdZ (1 : Int32)) fun _ => rt (1 : Int32))))))))) := rfl
theorem s_R_canSet_0 {d : Nat} (hcs : AllS L X d (cs_R_canSet F_R_isAlias F_R_isIn F_R_isPerson F_R_isStreet)) (x1 : Int32) (x2 : Int32) (x3 : Int32) {o : Option Value × PH} {Q : (Int32) → MI → Prop} (q0 : ∀ v I, Q v I → o = (some (.int v), HH I)) (I : MI) (r : Int32) (I1 : MI) (h : F_R_canSet x1 x2 x3 I = some (r, I1)) (hq : Q r I1) : At L X (d + 1) 200 0 [(112, .ref 207), (0, .int x1), (0, .int x2), (0, .int x3)] [] I o := by
  refine wf_ok z_R_canSet hcs ?_ ?_ _ _ _ _ _ ⟨rfl, trivial, trivial, trivial, trivial⟩ trivial (unm_refl _ _) ((congrFun (e_s_R_canSet_0 (L := L) (X := X) F_R_isAlias F_R_isIn F_R_isPerson F_R_isStreet K_R_canSet_39 x1 x2 x3) I).trans h)
  · intro pc ls st I2 h1 h2 h3 h
    rcases mC_ok h with ⟨hb, h⟩ | ⟨_, h⟩
    · have e := Nat.eq_of_beq_eq_true hb
      subst e
      obtain ⟨hst, h⟩ := mN_ok h
      subst hst
      refine at_leaf (ls2 := [(112, .ref 207), (0, .int x1), (0, .int x2), (0, .int x3)]) h3.1 ⟨Or.inr ⟨_, (h3.2 0 rfl).trans rfl⟩, Or.inr ⟨_, (h3.2 1 rfl).trans rfl⟩, Or.inr ⟨_, (h3.2 2 rfl).trans rfl⟩, Or.inr ⟨_, (h3.2 3 rfl).trans rfl⟩, trivial⟩ ?_
      exact s_R_canSet_39 hcs x1 x2 x3 q0 _ _ _ h hq
    cases h
  · intro v I2 _ h
    split at h
    · cases h; exact q0 _ _ hq
    · cases h
theorem w_R_canSet {d : Nat} (hcs : AllS L X d (cs_R_canSet F_R_isAlias F_R_isIn F_R_isPerson F_R_isStreet)) : Snd L X (d + 1) 200 4 (W_R_canSet F_R_canSet) := by
  refine ⟨_, z_R_canSet, rfl, fun β args k I r hty hlen h => ?_⟩
  unfold W_R_canSet at h
  split at h
  · rename_i t0 a0 u1 a1 u2 a2 u3 a3
    obtain ⟨hb0, h⟩ := mB_ok h
    have e0 := Nat.eq_of_beq_eq_true hb0
    have g0 : okB 112 a0 = true := e0 ▸ hty.1
    have e20 := one_112 g0
    subst e20
    obtain ⟨v, I1, h1, h2⟩ := bn_some h
    refine ⟨gf_obj (c := 12) (by decide) g0, rfl, some (0, .int v), I1, trivial, ?_, h2⟩
    exact s_R_canSet_0 hcs a1 a2 a3  (Q := fun w I => w = v ∧ I = I1) (fun w I q => by obtain ⟨rfl, rfl⟩ := q; rfl) I v I1 h1 ⟨rfl, rfl⟩
  · cases h
theorem S_R_canSet {d : Nat} (hd : 2 ≤ d) : Snd L X d 200 4 (W_R_canSet F_R_canSet) := by
  obtain ⟨e, rfl⟩ : ∃ e, d = e + 1 := ⟨d - 1, by omega⟩
  exact w_R_canSet ⟨S_R_isAlias (by omega), S_R_isIn (by omega), S_R_isPerson (by omega), S_R_isStreet (by omega), trivial⟩
set_option maxRecDepth 100000 in
theorem z_R_set : pT[199]? = some (q_R_set, 4, 4, 2, 12) := rfl
def W_R_set (F : Int32 → Int32 → Int32 → M Int32) : CSem := fun _ args k => match args with
  | [(t0, .ref a0), (_, .int a1), (_, .int a2), (_, .int a3)] => mB (Nat.beq t0 112) <| bn (F a1 a2 a3) fun v => k (some (0, .int v))
  | _ => fl
def cs_R_set (f_R_canSet : Int32 → Int32 → Int32 → M Int32) : List (Nat × Nat × CSem) := [(200, 4, W_R_canSet f_R_canSet)]
def K_R_set_70 (x1 : Int32) (x2 : Int32) (x3 : Int32) : M (Int32) :=
  (if x1 = (4 : Int32) then
    bn (sr 95 208 ((59 : Int32) + x2) x3) fun _ =>
    bn (wr 207 3 (0 : Int32)) fun _ =>
    bn (gdZ (1 : Int32)) fun _ => rt (1 : Int32)
  else
    bn (wr 207 3 (0 : Int32)) fun _ =>
    bn (gdZ (1 : Int32)) fun _ => rt (1 : Int32))
set_option maxRecDepth 4000 in
theorem e_s_R_set_70 (f_R_canSet : Int32 → Int32 → Int32 → M Int32) (x1 : Int32) (x2 : Int32) (x3 : Int32) : wf (β := Int32) L X q_R_set 2 (cs_R_set f_R_canSet) [] [43, 70] (fun _ _ _ => fl) (fun v => match v with | some (_, .int x) => rt x | _ => fl) 66 70 [(112, .ref 207), (0, .int x1), (0, .int x2), (0, .int x3)] [] = ((if x1 = (4 : Int32) then
    bn (sr 95 208 ((59 : Int32) + x2) x3) fun _ =>
    bn (wr 207 3 (0 : Int32)) fun _ =>
    bn (gdZ (1 : Int32)) fun _ => rt (1 : Int32)
  else
    bn (wr 207 3 (0 : Int32)) fun _ =>
    bn (gdZ (1 : Int32)) fun _ => rt (1 : Int32))) := rfl
theorem s_R_set_70 {d : Nat} (hcs : AllS L X d (cs_R_set F_R_canSet)) (x1 : Int32) (x2 : Int32) (x3 : Int32) {o : Option Value × PH} {Q : (Int32) → MI → Prop} (q0 : ∀ v I, Q v I → o = (some (.int v), HH I)) (I : MI) (r : Int32) (I1 : MI) (h : K_R_set_70 x1 x2 x3 I = some (r, I1)) (hq : Q r I1) : At L X (d + 1) 199 70 [(112, .ref 207), (0, .int x1), (0, .int x2), (0, .int x3)] [] I o := by
  refine wf_ok z_R_set hcs ?_ ?_ _ _ _ _ _ ⟨rfl, trivial, trivial, trivial, trivial⟩ trivial (unm_refl _ _) ((congrFun (e_s_R_set_70 (L := L) (X := X) F_R_canSet x1 x2 x3) I).trans h)
  · intro pc ls st I2 h1 h2 h3 h
    cases h
  · intro v I2 _ h
    split at h
    · cases h; exact q0 _ _ hq
    · cases h
def K_R_set_43 (x1 : Int32) (x2 : Int32) (x3 : Int32) : M (Int32) :=
  (if x1 = (2 : Int32) then
    bn (sr 95 208 ((17 : Int32) + x2) x3) fun _ =>
    (if x1 = (3 : Int32) then
      bn (sr 18 213 x2 x3) fun _ =>
      K_R_set_70 x1 x2 x3
    else
      K_R_set_70 x1 x2 x3)
  else
    (if x1 = (3 : Int32) then
      bn (sr 18 213 x2 x3) fun _ =>
      K_R_set_70 x1 x2 x3
    else
      K_R_set_70 x1 x2 x3))
set_option maxRecDepth 4000 in
theorem e_s_R_set_43 (f_R_canSet : Int32 → Int32 → Int32 → M Int32) (k_70 : Int32 → Int32 → Int32 → M (Int32)) (x1 : Int32) (x2 : Int32) (x3 : Int32) : wf (β := Int32) L X q_R_set 2 (cs_R_set f_R_canSet) [] [43, 70] (fun pc ls st => mC (Nat.beq pc 70) (mN st <| k_70 x1 x2 x3) (fl)) (fun v => match v with | some (_, .int x) => rt x | _ => fl) 66 43 [(112, .ref 207), (0, .int x1), (0, .int x2), (0, .int x3)] [] = ((if x1 = (2 : Int32) then
    bn (sr 95 208 ((17 : Int32) + x2) x3) fun _ =>
    (if x1 = (3 : Int32) then
      bn (sr 18 213 x2 x3) fun _ =>
      k_70 x1 x2 x3
    else
      k_70 x1 x2 x3)
  else
    (if x1 = (3 : Int32) then
      bn (sr 18 213 x2 x3) fun _ =>
      k_70 x1 x2 x3
    else
      k_70 x1 x2 x3))) := rfl
theorem s_R_set_43 {d : Nat} (hcs : AllS L X d (cs_R_set F_R_canSet)) (x1 : Int32) (x2 : Int32) (x3 : Int32) {o : Option Value × PH} {Q : (Int32) → MI → Prop} (q0 : ∀ v I, Q v I → o = (some (.int v), HH I)) (I : MI) (r : Int32) (I1 : MI) (h : K_R_set_43 x1 x2 x3 I = some (r, I1)) (hq : Q r I1) : At L X (d + 1) 199 43 [(112, .ref 207), (0, .int x1), (0, .int x2), (0, .int x3)] [] I o := by
  refine wf_ok z_R_set hcs ?_ ?_ _ _ _ _ _ ⟨rfl, trivial, trivial, trivial, trivial⟩ trivial (unm_refl _ _) ((congrFun (e_s_R_set_43 (L := L) (X := X) F_R_canSet K_R_set_70 x1 x2 x3) I).trans h)
  · intro pc ls st I2 h1 h2 h3 h
    rcases mC_ok h with ⟨hb, h⟩ | ⟨_, h⟩
    · have e := Nat.eq_of_beq_eq_true hb
      subst e
      obtain ⟨hst, h⟩ := mN_ok h
      subst hst
      refine at_leaf (ls2 := [(112, .ref 207), (0, .int x1), (0, .int x2), (0, .int x3)]) h3.1 ⟨Or.inr ⟨_, (h3.2 0 rfl).trans rfl⟩, Or.inr ⟨_, (h3.2 1 rfl).trans rfl⟩, Or.inr ⟨_, (h3.2 2 rfl).trans rfl⟩, Or.inr ⟨_, (h3.2 3 rfl).trans rfl⟩, trivial⟩ ?_
      exact s_R_set_70 hcs x1 x2 x3 q0 _ _ _ h hq
    cases h
  · intro v I2 _ h
    split at h
    · cases h; exact q0 _ _ hq
    · cases h
def F_R_set (x1 : Int32) (x2 : Int32) (x3 : Int32) : M (Int32) :=
  bn (wr 207 0 (0 : Int32)) fun _ =>
  bn (F_R_canSet x1 x2 x3) fun v1 =>
  (if v1 = 0 then
    bn (gdZ (0 : Int32)) fun _ => rt (0 : Int32)
  else
    (if x1 = 0 then
      bn (sr 95 208 ((7 : Int32) + x2) x3) fun _ =>
      (if x1 = (1 : Int32) then
        bn (sr 6 211 x2 x3) fun _ =>
        K_R_set_43 x1 x2 x3
      else
        K_R_set_43 x1 x2 x3)
    else
      (if x1 = (1 : Int32) then
        bn (sr 6 211 x2 x3) fun _ =>
        K_R_set_43 x1 x2 x3
      else
        K_R_set_43 x1 x2 x3)))
set_option maxRecDepth 4000 in
theorem e_s_R_set_0 (f_R_canSet : Int32 → Int32 → Int32 → M Int32) (k_43 : Int32 → Int32 → Int32 → M (Int32)) (x1 : Int32) (x2 : Int32) (x3 : Int32) : wf (β := Int32) L X q_R_set 2 (cs_R_set f_R_canSet) [] [43, 70] (fun pc ls st => mC (Nat.beq pc 43) (mN st <| k_43 x1 x2 x3) (fl)) (fun v => match v with | some (_, .int x) => rt x | _ => fl) 66 0 [(112, .ref 207), (0, .int x1), (0, .int x2), (0, .int x3)] [] = (bn (wr 207 0 (0 : Int32)) fun _ =>
  bn (f_R_canSet x1 x2 x3) fun v1 =>
  (if v1 = 0 then
    bn (gdZ (0 : Int32)) fun _ => rt (0 : Int32)
  else
    (if x1 = 0 then
      bn (sr 95 208 ((7 : Int32) + x2) x3) fun _ =>
      (if x1 = (1 : Int32) then
        bn (sr 6 211 x2 x3) fun _ =>
        k_43 x1 x2 x3
      else
        k_43 x1 x2 x3)
    else
      (if x1 = (1 : Int32) then
        bn (sr 6 211 x2 x3) fun _ =>
        k_43 x1 x2 x3
      else
        k_43 x1 x2 x3)))) := rfl
theorem s_R_set_0 {d : Nat} (hcs : AllS L X d (cs_R_set F_R_canSet)) (x1 : Int32) (x2 : Int32) (x3 : Int32) {o : Option Value × PH} {Q : (Int32) → MI → Prop} (q0 : ∀ v I, Q v I → o = (some (.int v), HH I)) (I : MI) (r : Int32) (I1 : MI) (h : F_R_set x1 x2 x3 I = some (r, I1)) (hq : Q r I1) : At L X (d + 1) 199 0 [(112, .ref 207), (0, .int x1), (0, .int x2), (0, .int x3)] [] I o := by
  refine wf_ok z_R_set hcs ?_ ?_ _ _ _ _ _ ⟨rfl, trivial, trivial, trivial, trivial⟩ trivial (unm_refl _ _) ((congrFun (e_s_R_set_0 (L := L) (X := X) F_R_canSet K_R_set_43 x1 x2 x3) I).trans h)
  · intro pc ls st I2 h1 h2 h3 h
    rcases mC_ok h with ⟨hb, h⟩ | ⟨_, h⟩
    · have e := Nat.eq_of_beq_eq_true hb
      subst e
      obtain ⟨hst, h⟩ := mN_ok h
      subst hst
      refine at_leaf (ls2 := [(112, .ref 207), (0, .int x1), (0, .int x2), (0, .int x3)]) h3.1 ⟨Or.inr ⟨_, (h3.2 0 rfl).trans rfl⟩, Or.inr ⟨_, (h3.2 1 rfl).trans rfl⟩, Or.inr ⟨_, (h3.2 2 rfl).trans rfl⟩, Or.inr ⟨_, (h3.2 3 rfl).trans rfl⟩, trivial⟩ ?_
      exact s_R_set_43 hcs x1 x2 x3 q0 _ _ _ h hq
    cases h
  · intro v I2 _ h
    split at h
    · cases h; exact q0 _ _ hq
    · cases h
theorem w_R_set {d : Nat} (hcs : AllS L X d (cs_R_set F_R_canSet)) : Snd L X (d + 1) 199 4 (W_R_set F_R_set) := by
  refine ⟨_, z_R_set, rfl, fun β args k I r hty hlen h => ?_⟩
  unfold W_R_set at h
  split at h
  · rename_i t0 a0 u1 a1 u2 a2 u3 a3
    obtain ⟨hb0, h⟩ := mB_ok h
    have e0 := Nat.eq_of_beq_eq_true hb0
    have g0 : okB 112 a0 = true := e0 ▸ hty.1
    have e20 := one_112 g0
    subst e20
    obtain ⟨v, I1, h1, h2⟩ := bn_some h
    refine ⟨gf_obj (c := 12) (by decide) g0, rfl, some (0, .int v), I1, trivial, ?_, h2⟩
    exact s_R_set_0 hcs a1 a2 a3  (Q := fun w I => w = v ∧ I = I1) (fun w I q => by obtain ⟨rfl, rfl⟩ := q; rfl) I v I1 h1 ⟨rfl, rfl⟩
  · cases h
theorem S_R_set {d : Nat} (hd : 3 ≤ d) : Snd L X d 199 4 (W_R_set F_R_set) := by
  obtain ⟨e, rfl⟩ : ∃ e, d = e + 1 := ⟨d - 1, by omega⟩
  exact w_R_set ⟨S_R_canSet (by omega), trivial⟩
set_option maxRecDepth 100000 in
theorem z_R_fewestGifts : pT[321]? = some (q_R_fewestGifts, 1, 6, 1, 12) := rfl
def W_R_fewestGifts (F : M Int32) : CSem := fun _ args k => match args with
  | [(t0, .ref a0)] => mB (Nat.beq t0 112) <| bn (F) fun v => k (some (0, .int v))
  | _ => fl
def cs_R_fewestGifts (f_R_greater : Int32 → Int32 → M Int32) (f_R_has : Int32 → Int32 → M Int32) (f_R_onesOf : Int32 → M Int32) : List (Nat × Nat × CSem) := [(269, 3, W_R_greater f_R_greater), (286, 3, W_R_has f_R_has), (296, 2, W_R_onesOf f_R_onesOf)]
def B_R_fewestGifts_4 (y : Int32 × Int32) : M ((Int32 × Int32) ⊕ ((Int32))) :=
  (if y.2 < (6 : Int32) then
    bn (ld 6 250 y.2) fun v1 =>
    (if v1 = 0 then
      rt (.inl (y.1, (y.2 + (1 : Int32))))
    else
      rt (.inl ((y.1 ||| ((1 : Int32) <<< (y.2 &&& 31))), (y.2 + (1 : Int32)))))
  else
    rt (.inr y.1))
set_option maxRecDepth 4000 in
theorem e_b_R_fewestGifts_4 (f_R_greater : Int32 → Int32 → M Int32) (f_R_has : Int32 → Int32 → M Int32) (f_R_onesOf : Int32 → M Int32) (y : Int32 × Int32) : wf (β := (Int32 × Int32) ⊕ ((Int32))) L X q_R_fewestGifts 1 (cs_R_fewestGifts f_R_greater f_R_has f_R_onesOf) [1, 2] [4, 31, 33, 47, 108] (fun pc ls st => mC (Nat.beq pc 4) (mN st <| gI ls 1 fun a1 => gI ls 2 fun a2 => gD ls 3 <| gD ls 4 <| gD ls 5 <| rt (.inl (a1, a2))) (mC (Nat.beq pc 31) (mN st <| gI ls 1 fun a1 => gD ls 2 <| gD ls 3 <| gD ls 4 <| gD ls 5 <| rt (.inr a1)) (fl))) (fun _ => fl) 98 4 [(112, .ref 207), (0, .int y.1), (0, .int y.2), (0, dV), (0, dV), (0, dV)] [] = ((if y.2 < (6 : Int32) then
    bn (ld 6 250 y.2) fun v1 =>
    (if v1 = 0 then
      rt (.inl (y.1, (y.2 + (1 : Int32))))
    else
      rt (.inl ((y.1 ||| ((1 : Int32) <<< (y.2 &&& 31))), (y.2 + (1 : Int32)))))
  else
    rt (.inr y.1))) := rfl
theorem b_R_fewestGifts_4 {d : Nat} (hcs : AllS L X d (cs_R_fewestGifts F_R_greater F_R_has F_R_onesOf)) {o : Option Value × PH} {Q : ((Int32 × Int32) ⊕ ((Int32))) → MI → Prop} (qb : ∀ y I, Q (.inl y) I → At L X (d + 1) 321 4 [(112, .ref 207), (0, .int y.1), (0, .int y.2), (0, dV), (0, dV), (0, dV)] [] I o) (qe31 : ∀ y I, Q (.inr y) I → At L X (d + 1) 321 31 [(112, .ref 207), (0, .int y), (0, dV), (0, dV), (0, dV), (0, dV)] [] I o) (y : Int32 × Int32) (I : MI) (r : (Int32 × Int32) ⊕ ((Int32))) (I1 : MI) (h : B_R_fewestGifts_4 y I = some (r, I1)) (hq : Q r I1) : At L X (d + 1) 321 4 [(112, .ref 207), (0, .int y.1), (0, .int y.2), (0, dV), (0, dV), (0, dV)] [] I o := by
  refine wf_ok z_R_fewestGifts hcs ?_ ?_ _ _ _ _ _ ⟨rfl, trivial, trivial, trivial, trivial, trivial, trivial⟩ trivial (unm_refl _ _) ((congrFun (e_b_R_fewestGifts_4 (L := L) (X := X) F_R_greater F_R_has F_R_onesOf y) I).trans h)
  · intro pc ls st I2 h1 h2 h3 h
    rcases mC_ok h with ⟨hb, h⟩ | ⟨_, h⟩
    · have e := Nat.eq_of_beq_eq_true hb
      subst e
      obtain ⟨hst, h⟩ := mN_ok h
      subst hst
      obtain ⟨a1, n1, h⟩ := gI_ok h
      obtain ⟨a2, n2, h⟩ := gI_ok h
      obtain ⟨n3, h⟩ := gD_ok h
      obtain ⟨n4, h⟩ := gD_ok h
      obtain ⟨n5, h⟩ := gD_ok h
      refine at_leaf (ls2 := [(112, .ref 207), (0, .int a1), (0, .int a2), (0, dV), (0, dV), (0, dV)]) h3.1 ⟨Or.inr ⟨_, (h3.2 0 rfl).trans rfl⟩, Or.inr n1, Or.inr n2, Or.inl ⟨rfl, n3⟩, Or.inl ⟨rfl, n4⟩, Or.inl ⟨rfl, n5⟩, trivial⟩ ?_
      cases h; exact qb _ _ hq
    rcases mC_ok h with ⟨hb, h⟩ | ⟨_, h⟩
    · have e := Nat.eq_of_beq_eq_true hb
      subst e
      obtain ⟨hst, h⟩ := mN_ok h
      subst hst
      obtain ⟨a1, n1, h⟩ := gI_ok h
      obtain ⟨n2, h⟩ := gD_ok h
      obtain ⟨n3, h⟩ := gD_ok h
      obtain ⟨n4, h⟩ := gD_ok h
      obtain ⟨n5, h⟩ := gD_ok h
      refine at_leaf (ls2 := [(112, .ref 207), (0, .int a1), (0, dV), (0, dV), (0, dV), (0, dV)]) h3.1 ⟨Or.inr ⟨_, (h3.2 0 rfl).trans rfl⟩, Or.inr n1, Or.inl ⟨rfl, n2⟩, Or.inl ⟨rfl, n3⟩, Or.inl ⟨rfl, n4⟩, Or.inl ⟨rfl, n5⟩, trivial⟩ ?_
      cases h; exact qe31 _ _ hq
    cases h
  · intro v I2 _ h
    cases h
def B_R_fewestGifts_47 (x1 : Int32) (x2 : Int32) (y : Int32 × Int32 × Int32) : M ((Int32 × Int32 × Int32) ⊕ ((Int32 × Int32))) :=
  (if y.2.2 < (6 : Int32) then
    bn (F_R_has (x2 &&& x1) y.2.2) fun v1 =>
    (if v1 = 0 then
      rt (.inl (y.1, y.2.1, (y.2.2 + (1 : Int32))))
    else
      bn (ld 6 250 y.2.2) fun v2 =>
      bn (ld 64 251 ((x2 &&& x1) &&& (((1 : Int32) <<< (y.2.2 &&& 31)) ^^^ (-1 : Int32)))) fun v3 =>
      bn (F_R_greater y.2.1 v3) fun v4 =>
      rt (.inl ((y.1 + v2), v4, (y.2.2 + (1 : Int32)))))
  else
    rt (.inr (y.1, y.2.1)))
set_option maxRecDepth 4000 in
theorem e_b_R_fewestGifts_47 (f_R_greater : Int32 → Int32 → M Int32) (f_R_has : Int32 → Int32 → M Int32) (f_R_onesOf : Int32 → M Int32) (x1 : Int32) (x2 : Int32) (y : Int32 × Int32 × Int32) : wf (β := (Int32 × Int32 × Int32) ⊕ ((Int32 × Int32))) L X q_R_fewestGifts 1 (cs_R_fewestGifts f_R_greater f_R_has f_R_onesOf) [3, 4, 5] [4, 31, 33, 47, 108] (fun pc ls st => mC (Nat.beq pc 47) (mN st <| gI ls 3 fun a3 => gI ls 4 fun a4 => gI ls 5 fun a5 => rt (.inl (a3, a4, a5))) (mC (Nat.beq pc 108) (mN st <| gI ls 3 fun a3 => gI ls 4 fun a4 => gD ls 5 <| rt (.inr (a3, a4))) (fl))) (fun _ => fl) 98 47 [(112, .ref 207), (0, .int x1), (0, .int x2), (0, .int y.1), (0, .int y.2.1), (0, .int y.2.2)] [] = ((if y.2.2 < (6 : Int32) then
    bn (f_R_has (x2 &&& x1) y.2.2) fun v1 =>
    (if v1 = 0 then
      rt (.inl (y.1, y.2.1, (y.2.2 + (1 : Int32))))
    else
      bn (ld 6 250 y.2.2) fun v2 =>
      bn (ld 64 251 ((x2 &&& x1) &&& (((1 : Int32) <<< (y.2.2 &&& 31)) ^^^ (-1 : Int32)))) fun v3 =>
      bn (f_R_greater y.2.1 v3) fun v4 =>
      rt (.inl ((y.1 + v2), v4, (y.2.2 + (1 : Int32)))))
  else
    rt (.inr (y.1, y.2.1)))) := rfl
theorem b_R_fewestGifts_47 {d : Nat} (hcs : AllS L X d (cs_R_fewestGifts F_R_greater F_R_has F_R_onesOf)) (x1 : Int32) (x2 : Int32) {o : Option Value × PH} {Q : ((Int32 × Int32 × Int32) ⊕ ((Int32 × Int32))) → MI → Prop} (qb : ∀ y I, Q (.inl y) I → At L X (d + 1) 321 47 [(112, .ref 207), (0, .int x1), (0, .int x2), (0, .int y.1), (0, .int y.2.1), (0, .int y.2.2)] [] I o) (qe108 : ∀ y I, Q (.inr y) I → At L X (d + 1) 321 108 [(112, .ref 207), (0, .int x1), (0, .int x2), (0, .int y.1), (0, .int y.2), (0, dV)] [] I o) (y : Int32 × Int32 × Int32) (I : MI) (r : (Int32 × Int32 × Int32) ⊕ ((Int32 × Int32))) (I1 : MI) (h : B_R_fewestGifts_47 x1 x2 y I = some (r, I1)) (hq : Q r I1) : At L X (d + 1) 321 47 [(112, .ref 207), (0, .int x1), (0, .int x2), (0, .int y.1), (0, .int y.2.1), (0, .int y.2.2)] [] I o := by
  refine wf_ok z_R_fewestGifts hcs ?_ ?_ _ _ _ _ _ ⟨rfl, trivial, trivial, trivial, trivial, trivial, trivial⟩ trivial (unm_refl _ _) ((congrFun (e_b_R_fewestGifts_47 (L := L) (X := X) F_R_greater F_R_has F_R_onesOf x1 x2 y) I).trans h)
  · intro pc ls st I2 h1 h2 h3 h
    rcases mC_ok h with ⟨hb, h⟩ | ⟨_, h⟩
    · have e := Nat.eq_of_beq_eq_true hb
      subst e
      obtain ⟨hst, h⟩ := mN_ok h
      subst hst
      obtain ⟨a3, n3, h⟩ := gI_ok h
      obtain ⟨a4, n4, h⟩ := gI_ok h
      obtain ⟨a5, n5, h⟩ := gI_ok h
      refine at_leaf (ls2 := [(112, .ref 207), (0, .int x1), (0, .int x2), (0, .int a3), (0, .int a4), (0, .int a5)]) h3.1 ⟨Or.inr ⟨_, (h3.2 0 rfl).trans rfl⟩, Or.inr ⟨_, (h3.2 1 rfl).trans rfl⟩, Or.inr ⟨_, (h3.2 2 rfl).trans rfl⟩, Or.inr n3, Or.inr n4, Or.inr n5, trivial⟩ ?_
      cases h; exact qb _ _ hq
    rcases mC_ok h with ⟨hb, h⟩ | ⟨_, h⟩
    · have e := Nat.eq_of_beq_eq_true hb
      subst e
      obtain ⟨hst, h⟩ := mN_ok h
      subst hst
      obtain ⟨a3, n3, h⟩ := gI_ok h
      obtain ⟨a4, n4, h⟩ := gI_ok h
      obtain ⟨n5, h⟩ := gD_ok h
      refine at_leaf (ls2 := [(112, .ref 207), (0, .int x1), (0, .int x2), (0, .int a3), (0, .int a4), (0, dV)]) h3.1 ⟨Or.inr ⟨_, (h3.2 0 rfl).trans rfl⟩, Or.inr ⟨_, (h3.2 1 rfl).trans rfl⟩, Or.inr ⟨_, (h3.2 2 rfl).trans rfl⟩, Or.inr n3, Or.inr n4, Or.inl ⟨rfl, n5⟩, trivial⟩ ?_
      cases h; exact qe108 _ _ hq
    cases h
  · intro v I2 _ h
    cases h
def K_R_fewestGifts_108 (x1 : Int32) (x2 : Int32) (x3 : Int32) (x4 : Int32) : M ((Int32) ⊕ (Int32)) :=
  (if x3 = 0 then
    (if (x2 &&& x1) = 0 then
      bn (sr 64 251 x2 (x4 + (0 : Int32))) fun _ =>
      rt (.inl (x2 + (1 : Int32)))
    else
      bn (sr 64 251 x2 (x4 + (1 : Int32))) fun _ =>
      rt (.inl (x2 + (1 : Int32))))
  else
    bn (sr 64 251 x2 (x4 + (0 : Int32))) fun _ =>
    rt (.inl (x2 + (1 : Int32))))
set_option maxRecDepth 4000 in
theorem e_s_R_fewestGifts_108 (f_R_greater : Int32 → Int32 → M Int32) (f_R_has : Int32 → Int32 → M Int32) (f_R_onesOf : Int32 → M Int32) (x1 : Int32) (x2 : Int32) (x3 : Int32) (x4 : Int32) : wf (β := (Int32) ⊕ (Int32)) L X q_R_fewestGifts 1 (cs_R_fewestGifts f_R_greater f_R_has f_R_onesOf) [2] [4, 31, 33, 47, 108] (fun pc ls st => mC (Nat.beq pc 33) (mN st <| gI ls 2 fun a2 => gD ls 3 <| gD ls 4 <| gD ls 5 <| rt (.inl a2)) (fl)) (fun v => match v with | some (_, .int x) => rt (.inr x) | _ => fl) 98 108 [(112, .ref 207), (0, .int x1), (0, .int x2), (0, .int x3), (0, .int x4), (0, dV)] [] = ((if x3 = 0 then
    (if (x2 &&& x1) = 0 then
      bn (sr 64 251 x2 (x4 + (0 : Int32))) fun _ =>
      rt (.inl (x2 + (1 : Int32)))
    else
      bn (sr 64 251 x2 (x4 + (1 : Int32))) fun _ =>
      rt (.inl (x2 + (1 : Int32))))
  else
    bn (sr 64 251 x2 (x4 + (0 : Int32))) fun _ =>
    rt (.inl (x2 + (1 : Int32))))) := rfl
theorem s_R_fewestGifts_108 {d : Nat} (hcs : AllS L X d (cs_R_fewestGifts F_R_greater F_R_has F_R_onesOf)) (x1 : Int32) (x2 : Int32) (x3 : Int32) (x4 : Int32) {o : Option Value × PH} {Q : ((Int32) ⊕ (Int32)) → MI → Prop} (qb : ∀ y I, Q (.inl y) I → At L X (d + 1) 321 33 [(112, .ref 207), (0, .int x1), (0, .int y), (0, dV), (0, dV), (0, dV)] [] I o) (qr : ∀ v I, Q (.inr v) I → o = (some (.int v), HH I)) (I : MI) (r : (Int32) ⊕ (Int32)) (I1 : MI) (h : K_R_fewestGifts_108 x1 x2 x3 x4 I = some (r, I1)) (hq : Q r I1) : At L X (d + 1) 321 108 [(112, .ref 207), (0, .int x1), (0, .int x2), (0, .int x3), (0, .int x4), (0, dV)] [] I o := by
  refine wf_ok z_R_fewestGifts hcs ?_ ?_ _ _ _ _ _ ⟨rfl, trivial, trivial, trivial, trivial, trivial, trivial⟩ trivial (unm_refl _ _) ((congrFun (e_s_R_fewestGifts_108 (L := L) (X := X) F_R_greater F_R_has F_R_onesOf x1 x2 x3 x4) I).trans h)
  · intro pc ls st I2 h1 h2 h3 h
    rcases mC_ok h with ⟨hb, h⟩ | ⟨_, h⟩
    · have e := Nat.eq_of_beq_eq_true hb
      subst e
      obtain ⟨hst, h⟩ := mN_ok h
      subst hst
      obtain ⟨a2, n2, h⟩ := gI_ok h
      obtain ⟨n3, h⟩ := gD_ok h
      obtain ⟨n4, h⟩ := gD_ok h
      obtain ⟨n5, h⟩ := gD_ok h
      refine at_leaf (ls2 := [(112, .ref 207), (0, .int x1), (0, .int a2), (0, dV), (0, dV), (0, dV)]) h3.1 ⟨Or.inr ⟨_, (h3.2 0 rfl).trans rfl⟩, Or.inr ⟨_, (h3.2 1 rfl).trans rfl⟩, Or.inr n2, Or.inl ⟨rfl, n3⟩, Or.inl ⟨rfl, n4⟩, Or.inl ⟨rfl, n5⟩, trivial⟩ ?_
      cases h; exact qb _ _ hq
    cases h
  · intro v I2 _ h
    split at h
    · cases h; exact qr _ _ hq
    · cases h
def K_R_fewestGifts_47 (x1 : Int32) (x2 : Int32) (x3 : Int32) (x4 : Int32) (x5 : Int32) : M ((Int32) ⊕ (Int32)) :=
  bn (lp (B_R_fewestGifts_47 x1 x2) FU (x3, x4, x5)) fun e => K_R_fewestGifts_108 x1 x2 e.1 e.2
theorem s_R_fewestGifts_47 {d : Nat} (hcs : AllS L X d (cs_R_fewestGifts F_R_greater F_R_has F_R_onesOf)) (x1 : Int32) (x2 : Int32) (x3 : Int32) (x4 : Int32) (x5 : Int32) {o : Option Value × PH} {Q : ((Int32) ⊕ (Int32)) → MI → Prop} (qb : ∀ y I, Q (.inl y) I → At L X (d + 1) 321 33 [(112, .ref 207), (0, .int x1), (0, .int y), (0, dV), (0, dV), (0, dV)] [] I o) (qr : ∀ v I, Q (.inr v) I → o = (some (.int v), HH I)) (I : MI) (r : (Int32) ⊕ (Int32)) (I1 : MI) (h : K_R_fewestGifts_47 x1 x2 x3 x4 x5 I = some (r, I1)) (hq : Q r I1) : At L X (d + 1) 321 47 [(112, .ref 207), (0, .int x1), (0, .int x2), (0, .int x3), (0, .int x4), (0, .int x5)] [] I o := by
  unfold K_R_fewestGifts_47 at h
  obtain ⟨e, I2, h1, h2⟩ := bn_some h
  have w0 := fun w => at_lp (body := B_R_fewestGifts_47 x1 x2) (P := (fun (y : Int32 × Int32 × Int32) I => At L X (d + 1) 321 47 [(112, .ref 207), (0, .int x1), (0, .int x2), (0, .int y.1), (0, .int y.2.1), (0, .int y.2.2)] [] I o)) (Q := (fun (e : (Int32 × Int32)) I => (K_R_fewestGifts_108 x1 x2 e.1 e.2) I = some (r, I1))) w FU (x3, x4, x5) I e I2 h1 h2
  refine w0 ?_
  intro y I r2 I3 h hq2
  exact b_R_fewestGifts_47 hcs x1 x2 (Q := SQ (fun (y : Int32 × Int32 × Int32) I => At L X (d + 1) 321 47 [(112, .ref 207), (0, .int x1), (0, .int x2), (0, .int y.1), (0, .int y.2.1), (0, .int y.2.2)] [] I o) (fun (e : (Int32 × Int32)) I => (K_R_fewestGifts_108 x1 x2 e.1 e.2) I = some (r, I1))) (fun _ _ w => w) (fun y I w => s_R_fewestGifts_108 hcs x1 x2 y.1 y.2 qb qr _ _ _ w hq) y I r2 I3 h hq2
def B_R_fewestGifts_33 (x1 : Int32) (y : Int32) : M ((Int32) ⊕ (Int32)) :=
  (if y < (64 : Int32) then
    K_R_fewestGifts_47 x1 y (0 : Int32) (0 : Int32) (0 : Int32)
  else
    bn (F_R_onesOf x1) fun v1 =>
    bn (ld 64 251 x1) fun v2 =>
    rt (.inr (v1 - v2)))
set_option maxRecDepth 4000 in
theorem e_b_R_fewestGifts_33 (f_R_greater : Int32 → Int32 → M Int32) (f_R_has : Int32 → Int32 → M Int32) (f_R_onesOf : Int32 → M Int32) (k_47 : Int32 → Int32 → Int32 → Int32 → Int32 → M ((Int32) ⊕ (Int32))) (x1 : Int32) (y : Int32) : wf (β := (Int32) ⊕ (Int32)) L X q_R_fewestGifts 1 (cs_R_fewestGifts f_R_greater f_R_has f_R_onesOf) [3, 4, 5] [4, 31, 33, 47, 108] (fun pc ls st => mC (Nat.beq pc 47) (mN st <| gI ls 3 fun a3 => gI ls 4 fun a4 => gI ls 5 fun a5 => k_47 x1 y a3 a4 a5) (fl)) (fun v => match v with | some (_, .int x) => rt (.inr x) | _ => fl) 98 33 [(112, .ref 207), (0, .int x1), (0, .int y), (0, dV), (0, dV), (0, dV)] [] = ((if y < (64 : Int32) then
    k_47 x1 y (0 : Int32) (0 : Int32) (0 : Int32)
  else
    bn (f_R_onesOf x1) fun v1 =>
    bn (ld 64 251 x1) fun v2 =>
    rt (.inr (v1 - v2)))) := rfl
theorem b_R_fewestGifts_33 {d : Nat} (hcs : AllS L X d (cs_R_fewestGifts F_R_greater F_R_has F_R_onesOf)) (x1 : Int32) {o : Option Value × PH} {Q : ((Int32) ⊕ (Int32)) → MI → Prop} (qb : ∀ y I, Q (.inl y) I → At L X (d + 1) 321 33 [(112, .ref 207), (0, .int x1), (0, .int y), (0, dV), (0, dV), (0, dV)] [] I o) (qr : ∀ v I, Q (.inr v) I → o = (some (.int v), HH I)) (y : Int32) (I : MI) (r : (Int32) ⊕ (Int32)) (I1 : MI) (h : B_R_fewestGifts_33 x1 y I = some (r, I1)) (hq : Q r I1) : At L X (d + 1) 321 33 [(112, .ref 207), (0, .int x1), (0, .int y), (0, dV), (0, dV), (0, dV)] [] I o := by
  refine wf_ok z_R_fewestGifts hcs ?_ ?_ _ _ _ _ _ ⟨rfl, trivial, trivial, trivial, trivial, trivial, trivial⟩ trivial (unm_refl _ _) ((congrFun (e_b_R_fewestGifts_33 (L := L) (X := X) F_R_greater F_R_has F_R_onesOf K_R_fewestGifts_47 x1 y) I).trans h)
  · intro pc ls st I2 h1 h2 h3 h
    rcases mC_ok h with ⟨hb, h⟩ | ⟨_, h⟩
    · have e := Nat.eq_of_beq_eq_true hb
      subst e
      obtain ⟨hst, h⟩ := mN_ok h
      subst hst
      obtain ⟨a3, n3, h⟩ := gI_ok h
      obtain ⟨a4, n4, h⟩ := gI_ok h
      obtain ⟨a5, n5, h⟩ := gI_ok h
      refine at_leaf (ls2 := [(112, .ref 207), (0, .int x1), (0, .int y), (0, .int a3), (0, .int a4), (0, .int a5)]) h3.1 ⟨Or.inr ⟨_, (h3.2 0 rfl).trans rfl⟩, Or.inr ⟨_, (h3.2 1 rfl).trans rfl⟩, Or.inr ⟨_, (h3.2 2 rfl).trans rfl⟩, Or.inr n3, Or.inr n4, Or.inr n5, trivial⟩ ?_
      exact s_R_fewestGifts_47 hcs x1 y a3 a4 a5 qb qr _ _ _ h hq
    cases h
  · intro v I2 _ h
    split at h
    · cases h; exact qr _ _ hq
    · cases h
def K_R_fewestGifts_33 (x1 : Int32) (x2 : Int32) : M (Int32) :=
  lp (B_R_fewestGifts_33 x1) FU x2
theorem s_R_fewestGifts_33 {d : Nat} (hcs : AllS L X d (cs_R_fewestGifts F_R_greater F_R_has F_R_onesOf)) (x1 : Int32) (x2 : Int32) {o : Option Value × PH} {Q : (Int32) → MI → Prop} (q0 : ∀ v I, Q v I → o = (some (.int v), HH I)) (I : MI) (r : Int32) (I1 : MI) (h : K_R_fewestGifts_33 x1 x2 I = some (r, I1)) (hq : Q r I1) : At L X (d + 1) 321 33 [(112, .ref 207), (0, .int x1), (0, .int x2), (0, dV), (0, dV), (0, dV)] [] I o := by
  unfold K_R_fewestGifts_33 at h
  have w0 := fun w => at_lp (body := B_R_fewestGifts_33 x1) (P := (fun (y : Int32) I => At L X (d + 1) 321 33 [(112, .ref 207), (0, .int x1), (0, .int y), (0, dV), (0, dV), (0, dV)] [] I o)) (Q := (fun (e : Int32) I => Q e I)) w FU x2 I r I1 h hq
  refine w0 ?_
  intro y I r I1 h hq
  exact b_R_fewestGifts_33 hcs x1 (Q := SQ (fun (y : Int32) I => At L X (d + 1) 321 33 [(112, .ref 207), (0, .int x1), (0, .int y), (0, dV), (0, dV), (0, dV)] [] I o) (fun (e : Int32) I => Q e I)) (fun _ _ w => w) q0 y I r I1 h hq
def K_R_fewestGifts_31 (x1 : Int32) : M (Int32) :=
  K_R_fewestGifts_33 x1 (0 : Int32)
set_option maxRecDepth 4000 in
theorem e_s_R_fewestGifts_31 (f_R_greater : Int32 → Int32 → M Int32) (f_R_has : Int32 → Int32 → M Int32) (f_R_onesOf : Int32 → M Int32) (k_33 : Int32 → Int32 → M (Int32)) (x1 : Int32) : wf (β := Int32) L X q_R_fewestGifts 1 (cs_R_fewestGifts f_R_greater f_R_has f_R_onesOf) [2] [4, 31, 33, 47, 108] (fun pc ls st => mC (Nat.beq pc 33) (mN st <| gI ls 2 fun a2 => gD ls 3 <| gD ls 4 <| gD ls 5 <| k_33 x1 a2) (fl)) (fun v => match v with | some (_, .int x) => rt x | _ => fl) 98 31 [(112, .ref 207), (0, .int x1), (0, dV), (0, dV), (0, dV), (0, dV)] [] = (k_33 x1 (0 : Int32)) := rfl
theorem s_R_fewestGifts_31 {d : Nat} (hcs : AllS L X d (cs_R_fewestGifts F_R_greater F_R_has F_R_onesOf)) (x1 : Int32) {o : Option Value × PH} {Q : (Int32) → MI → Prop} (q0 : ∀ v I, Q v I → o = (some (.int v), HH I)) (I : MI) (r : Int32) (I1 : MI) (h : K_R_fewestGifts_31 x1 I = some (r, I1)) (hq : Q r I1) : At L X (d + 1) 321 31 [(112, .ref 207), (0, .int x1), (0, dV), (0, dV), (0, dV), (0, dV)] [] I o := by
  refine wf_ok z_R_fewestGifts hcs ?_ ?_ _ _ _ _ _ ⟨rfl, trivial, trivial, trivial, trivial, trivial, trivial⟩ trivial (unm_refl _ _) ((congrFun (e_s_R_fewestGifts_31 (L := L) (X := X) F_R_greater F_R_has F_R_onesOf K_R_fewestGifts_33 x1) I).trans h)
  · intro pc ls st I2 h1 h2 h3 h
    rcases mC_ok h with ⟨hb, h⟩ | ⟨_, h⟩
    · have e := Nat.eq_of_beq_eq_true hb
      subst e
      obtain ⟨hst, h⟩ := mN_ok h
      subst hst
      obtain ⟨a2, n2, h⟩ := gI_ok h
      obtain ⟨n3, h⟩ := gD_ok h
      obtain ⟨n4, h⟩ := gD_ok h
      obtain ⟨n5, h⟩ := gD_ok h
      refine at_leaf (ls2 := [(112, .ref 207), (0, .int x1), (0, .int a2), (0, dV), (0, dV), (0, dV)]) h3.1 ⟨Or.inr ⟨_, (h3.2 0 rfl).trans rfl⟩, Or.inr ⟨_, (h3.2 1 rfl).trans rfl⟩, Or.inr n2, Or.inl ⟨rfl, n3⟩, Or.inl ⟨rfl, n4⟩, Or.inl ⟨rfl, n5⟩, trivial⟩ ?_
      exact s_R_fewestGifts_33 hcs x1 a2 q0 _ _ _ h hq
    cases h
  · intro v I2 _ h
    split at h
    · cases h; exact q0 _ _ hq
    · cases h
def K_R_fewestGifts_4 (x1 : Int32) (x2 : Int32) : M (Int32) :=
  bn (lp (B_R_fewestGifts_4) FU (x1, x2)) fun e => K_R_fewestGifts_31 e
theorem s_R_fewestGifts_4 {d : Nat} (hcs : AllS L X d (cs_R_fewestGifts F_R_greater F_R_has F_R_onesOf)) (x1 : Int32) (x2 : Int32) {o : Option Value × PH} {Q : (Int32) → MI → Prop} (q0 : ∀ v I, Q v I → o = (some (.int v), HH I)) (I : MI) (r : Int32) (I1 : MI) (h : K_R_fewestGifts_4 x1 x2 I = some (r, I1)) (hq : Q r I1) : At L X (d + 1) 321 4 [(112, .ref 207), (0, .int x1), (0, .int x2), (0, dV), (0, dV), (0, dV)] [] I o := by
  unfold K_R_fewestGifts_4 at h
  obtain ⟨e, I2, h1, h2⟩ := bn_some h
  have w0 := fun w => at_lp (body := B_R_fewestGifts_4) (P := (fun (y : Int32 × Int32) I => At L X (d + 1) 321 4 [(112, .ref 207), (0, .int y.1), (0, .int y.2), (0, dV), (0, dV), (0, dV)] [] I o)) (Q := (fun (e : (Int32)) I => (K_R_fewestGifts_31 e) I = some (r, I1))) w FU (x1, x2) I e I2 h1 h2
  refine w0 ?_
  intro y I r2 I3 h hq2
  exact b_R_fewestGifts_4 hcs (Q := SQ (fun (y : Int32 × Int32) I => At L X (d + 1) 321 4 [(112, .ref 207), (0, .int y.1), (0, .int y.2), (0, dV), (0, dV), (0, dV)] [] I o) (fun (e : (Int32)) I => (K_R_fewestGifts_31 e) I = some (r, I1))) (fun _ _ w => w) (fun y I w => s_R_fewestGifts_31 hcs y q0 _ _ _ w hq) y I r2 I3 h hq2
def F_R_fewestGifts : M (Int32) :=
  K_R_fewestGifts_4 (0 : Int32) (0 : Int32)
set_option maxRecDepth 4000 in
theorem e_s_R_fewestGifts_0 (f_R_greater : Int32 → Int32 → M Int32) (f_R_has : Int32 → Int32 → M Int32) (f_R_onesOf : Int32 → M Int32) (k_4 : Int32 → Int32 → M (Int32)) : wf (β := Int32) L X q_R_fewestGifts 1 (cs_R_fewestGifts f_R_greater f_R_has f_R_onesOf) [1, 2] [4, 31, 33, 47, 108] (fun pc ls st => mC (Nat.beq pc 4) (mN st <| gI ls 1 fun a1 => gI ls 2 fun a2 => gD ls 3 <| gD ls 4 <| gD ls 5 <| k_4 a1 a2) (fl)) (fun v => match v with | some (_, .int x) => rt x | _ => fl) 98 0 [(112, .ref 207), (0, dV), (0, dV), (0, dV), (0, dV), (0, dV)] [] = (k_4 (0 : Int32) (0 : Int32)) := rfl
theorem s_R_fewestGifts_0 {d : Nat} (hcs : AllS L X d (cs_R_fewestGifts F_R_greater F_R_has F_R_onesOf)) {o : Option Value × PH} {Q : (Int32) → MI → Prop} (q0 : ∀ v I, Q v I → o = (some (.int v), HH I)) (I : MI) (r : Int32) (I1 : MI) (h : F_R_fewestGifts I = some (r, I1)) (hq : Q r I1) : At L X (d + 1) 321 0 [(112, .ref 207), (0, dV), (0, dV), (0, dV), (0, dV), (0, dV)] [] I o := by
  refine wf_ok z_R_fewestGifts hcs ?_ ?_ _ _ _ _ _ ⟨rfl, trivial, trivial, trivial, trivial, trivial, trivial⟩ trivial (unm_refl _ _) ((congrFun (e_s_R_fewestGifts_0 (L := L) (X := X) F_R_greater F_R_has F_R_onesOf K_R_fewestGifts_4) I).trans h)
  · intro pc ls st I2 h1 h2 h3 h
    rcases mC_ok h with ⟨hb, h⟩ | ⟨_, h⟩
    · have e := Nat.eq_of_beq_eq_true hb
      subst e
      obtain ⟨hst, h⟩ := mN_ok h
      subst hst
      obtain ⟨a1, n1, h⟩ := gI_ok h
      obtain ⟨a2, n2, h⟩ := gI_ok h
      obtain ⟨n3, h⟩ := gD_ok h
      obtain ⟨n4, h⟩ := gD_ok h
      obtain ⟨n5, h⟩ := gD_ok h
      refine at_leaf (ls2 := [(112, .ref 207), (0, .int a1), (0, .int a2), (0, dV), (0, dV), (0, dV)]) h3.1 ⟨Or.inr ⟨_, (h3.2 0 rfl).trans rfl⟩, Or.inr n1, Or.inr n2, Or.inl ⟨rfl, n3⟩, Or.inl ⟨rfl, n4⟩, Or.inl ⟨rfl, n5⟩, trivial⟩ ?_
      exact s_R_fewestGifts_4 hcs a1 a2 q0 _ _ _ h hq
    cases h
  · intro v I2 _ h
    split at h
    · cases h; exact q0 _ _ hq
    · cases h
theorem w_R_fewestGifts {d : Nat} (hcs : AllS L X d (cs_R_fewestGifts F_R_greater F_R_has F_R_onesOf)) : Snd L X (d + 1) 321 1 (W_R_fewestGifts F_R_fewestGifts) := by
  refine ⟨_, z_R_fewestGifts, rfl, fun β args k I r hty hlen h => ?_⟩
  unfold W_R_fewestGifts at h
  split at h
  · rename_i t0 a0
    obtain ⟨hb0, h⟩ := mB_ok h
    have e0 := Nat.eq_of_beq_eq_true hb0
    have g0 : okB 112 a0 = true := e0 ▸ hty.1
    have e20 := one_112 g0
    subst e20
    obtain ⟨v, I1, h1, h2⟩ := bn_some h
    refine ⟨gf_obj (c := 12) (by decide) g0, rfl, some (0, .int v), I1, trivial, ?_, h2⟩
    exact s_R_fewestGifts_0 hcs   (Q := fun w I => w = v ∧ I = I1) (fun w I q => by obtain ⟨rfl, rfl⟩ := q; rfl) I v I1 h1 ⟨rfl, rfl⟩
  · cases h
theorem S_R_fewestGifts {d : Nat} (hd : 2 ≤ d) : Snd L X d 321 1 (W_R_fewestGifts F_R_fewestGifts) := by
  obtain ⟨e, rfl⟩ : ∃ e, d = e + 1 := ⟨d - 1, by omega⟩
  exact w_R_fewestGifts ⟨S_R_greater (by omega), S_R_has (by omega), S_R_onesOf (by omega), trivial⟩
set_option maxRecDepth 100000 in
theorem z_R_settled : pT[320]? = some (q_R_settled, 2, 2, 1, 12) := rfl
def W_R_settled (F : Int32 → M Int32) : CSem := fun _ args k => match args with
  | [(t0, .ref a0), (_, .int a1)] => mB (Nat.beq t0 112) <| bn (F a1) fun v => k (some (0, .int v))
  | _ => fl
def cs_R_settled (f_R_fewestGifts : M Int32) (f_R_isIn : Int32 → Int32 → Int32 → M Int32) : List (Nat × Nat × CSem) := [(321, 1, W_R_fewestGifts f_R_fewestGifts), (195, 4, W_R_isIn f_R_isIn)]
def F_R_settled (x1 : Int32) : M (Int32) :=
  bn (wr 207 0 (0 : Int32)) fun _ =>
  bn (F_R_isIn x1 (-1 : Int32) (5 : Int32)) fun v1 =>
  (if v1 = 0 then
    rt (-10000 : Int32)
  else
    (if x1 = (-1 : Int32) then
      bn (F_R_fewestGifts) fun v3 =>
      rt v3
    else
      bn (ld 6 250 x1) fun v2 =>
      rt v2))
set_option maxRecDepth 4000 in
theorem e_s_R_settled_0 (f_R_fewestGifts : M Int32) (f_R_isIn : Int32 → Int32 → Int32 → M Int32) (x1 : Int32) : wf (β := Int32) L X q_R_settled 1 (cs_R_settled f_R_fewestGifts f_R_isIn) [] [] (fun _ _ _ => fl) (fun v => match v with | some (_, .int x) => rt x | _ => fl) 27 0 [(112, .ref 207), (0, .int x1)] [] = (bn (wr 207 0 (0 : Int32)) fun _ =>
  bn (f_R_isIn x1 (-1 : Int32) (5 : Int32)) fun v1 =>
  (if v1 = 0 then
    rt (-10000 : Int32)
  else
    (if x1 = (-1 : Int32) then
      bn (f_R_fewestGifts) fun v3 =>
      rt v3
    else
      bn (ld 6 250 x1) fun v2 =>
      rt v2))) := rfl
theorem s_R_settled_0 {d : Nat} (hcs : AllS L X d (cs_R_settled F_R_fewestGifts F_R_isIn)) (x1 : Int32) {o : Option Value × PH} {Q : (Int32) → MI → Prop} (q0 : ∀ v I, Q v I → o = (some (.int v), HH I)) (I : MI) (r : Int32) (I1 : MI) (h : F_R_settled x1 I = some (r, I1)) (hq : Q r I1) : At L X (d + 1) 320 0 [(112, .ref 207), (0, .int x1)] [] I o := by
  refine wf_ok z_R_settled hcs ?_ ?_ _ _ _ _ _ ⟨rfl, trivial, trivial⟩ trivial (unm_refl _ _) ((congrFun (e_s_R_settled_0 (L := L) (X := X) F_R_fewestGifts F_R_isIn x1) I).trans h)
  · intro pc ls st I2 h1 h2 h3 h
    cases h
  · intro v I2 _ h
    split at h
    · cases h; exact q0 _ _ hq
    · cases h
theorem w_R_settled {d : Nat} (hcs : AllS L X d (cs_R_settled F_R_fewestGifts F_R_isIn)) : Snd L X (d + 1) 320 2 (W_R_settled F_R_settled) := by
  refine ⟨_, z_R_settled, rfl, fun β args k I r hty hlen h => ?_⟩
  unfold W_R_settled at h
  split at h
  · rename_i t0 a0 u1 a1
    obtain ⟨hb0, h⟩ := mB_ok h
    have e0 := Nat.eq_of_beq_eq_true hb0
    have g0 : okB 112 a0 = true := e0 ▸ hty.1
    have e20 := one_112 g0
    subst e20
    obtain ⟨v, I1, h1, h2⟩ := bn_some h
    refine ⟨gf_obj (c := 12) (by decide) g0, rfl, some (0, .int v), I1, trivial, ?_, h2⟩
    exact s_R_settled_0 hcs a1  (Q := fun w I => w = v ∧ I = I1) (fun w I q => by obtain ⟨rfl, rfl⟩ := q; rfl) I v I1 h1 ⟨rfl, rfl⟩
  · cases h
theorem S_R_settled {d : Nat} (hd : 3 ≤ d) : Snd L X d 320 2 (W_R_settled F_R_settled) := by
  obtain ⟨e, rfl⟩ : ∃ e, d = e + 1 := ⟨d - 1, by omega⟩
  exact w_R_settled ⟨S_R_fewestGifts (by omega), S_R_isIn (by omega), trivial⟩
set_option maxRecDepth 100000 in
theorem z_R_sighted : pT[281]? = some (q_R_sighted, 3, 3, 1, 12) := rfl
def W_R_sighted (F : Int32 → Int32 → M Int32) : CSem := fun _ args k => match args with
  | [(t0, .ref a0), (_, .int a1), (_, .int a2)] => mB (Nat.beq t0 112) <| bn (F a1 a2) fun v => k (some (0, .int v))
  | _ => fl
def cs_R_sighted (f_R_isIn : Int32 → Int32 → Int32 → M Int32) (f_R_isStreet : Int32 → M Int32) : List (Nat × Nat × CSem) := [(195, 4, W_R_isIn f_R_isIn), (198, 2, W_R_isStreet f_R_isStreet)]
def F_R_sighted (x1 : Int32) (x2 : Int32) : M (Int32) :=
  bn (wr 207 0 (0 : Int32)) fun _ =>
  (if x1 = (-1 : Int32) then
    bn (wr 207 44 (0 : Int32)) fun _ =>
    rt (0 : Int32)
  else
    bn (F_R_isIn x1 (0 : Int32) (99 : Int32)) fun v1 =>
    (if v1 = 0 then
      rt (-1 : Int32)
    else
      bn (F_R_isStreet x2) fun v2 =>
      (if v2 = 0 then
        rt (-1 : Int32)
      else
        bn (rd 207 44) fun v3 =>
        (if v3 = (10 : Int32) then
          rt (-1 : Int32)
        else
          bn (rd 207 44) fun v4 =>
          bn (sr 10 231 v4 x1) fun _ =>
          bn (rd 207 44) fun v5 =>
          bn (sr 10 232 v5 x2) fun _ =>
          bn (rd 207 44) fun v6 =>
          bn (wr 207 44 (v6 + (1 : Int32))) fun _ =>
          bn (rd 207 44) fun v7 =>
          rt v7))))
set_option maxRecDepth 4000 in
theorem e_s_R_sighted_0 (f_R_isIn : Int32 → Int32 → Int32 → M Int32) (f_R_isStreet : Int32 → M Int32) (x1 : Int32) (x2 : Int32) : wf (β := Int32) L X q_R_sighted 1 (cs_R_sighted f_R_isIn f_R_isStreet) [] [] (fun _ _ _ => fl) (fun v => match v with | some (_, .int x) => rt x | _ => fl) 53 0 [(112, .ref 207), (0, .int x1), (0, .int x2)] [] = (bn (wr 207 0 (0 : Int32)) fun _ =>
  (if x1 = (-1 : Int32) then
    bn (wr 207 44 (0 : Int32)) fun _ =>
    rt (0 : Int32)
  else
    bn (f_R_isIn x1 (0 : Int32) (99 : Int32)) fun v1 =>
    (if v1 = 0 then
      rt (-1 : Int32)
    else
      bn (f_R_isStreet x2) fun v2 =>
      (if v2 = 0 then
        rt (-1 : Int32)
      else
        bn (rd 207 44) fun v3 =>
        (if v3 = (10 : Int32) then
          rt (-1 : Int32)
        else
          bn (rd 207 44) fun v4 =>
          bn (sr 10 231 v4 x1) fun _ =>
          bn (rd 207 44) fun v5 =>
          bn (sr 10 232 v5 x2) fun _ =>
          bn (rd 207 44) fun v6 =>
          bn (wr 207 44 (v6 + (1 : Int32))) fun _ =>
          bn (rd 207 44) fun v7 =>
          rt v7))))) := rfl
theorem s_R_sighted_0 {d : Nat} (hcs : AllS L X d (cs_R_sighted F_R_isIn F_R_isStreet)) (x1 : Int32) (x2 : Int32) {o : Option Value × PH} {Q : (Int32) → MI → Prop} (q0 : ∀ v I, Q v I → o = (some (.int v), HH I)) (I : MI) (r : Int32) (I1 : MI) (h : F_R_sighted x1 x2 I = some (r, I1)) (hq : Q r I1) : At L X (d + 1) 281 0 [(112, .ref 207), (0, .int x1), (0, .int x2)] [] I o := by
  refine wf_ok z_R_sighted hcs ?_ ?_ _ _ _ _ _ ⟨rfl, trivial, trivial, trivial⟩ trivial (unm_refl _ _) ((congrFun (e_s_R_sighted_0 (L := L) (X := X) F_R_isIn F_R_isStreet x1 x2) I).trans h)
  · intro pc ls st I2 h1 h2 h3 h
    cases h
  · intro v I2 _ h
    split at h
    · cases h; exact q0 _ _ hq
    · cases h
theorem w_R_sighted {d : Nat} (hcs : AllS L X d (cs_R_sighted F_R_isIn F_R_isStreet)) : Snd L X (d + 1) 281 3 (W_R_sighted F_R_sighted) := by
  refine ⟨_, z_R_sighted, rfl, fun β args k I r hty hlen h => ?_⟩
  unfold W_R_sighted at h
  split at h
  · rename_i t0 a0 u1 a1 u2 a2
    obtain ⟨hb0, h⟩ := mB_ok h
    have e0 := Nat.eq_of_beq_eq_true hb0
    have g0 : okB 112 a0 = true := e0 ▸ hty.1
    have e20 := one_112 g0
    subst e20
    obtain ⟨v, I1, h1, h2⟩ := bn_some h
    refine ⟨gf_obj (c := 12) (by decide) g0, rfl, some (0, .int v), I1, trivial, ?_, h2⟩
    exact s_R_sighted_0 hcs a1 a2  (Q := fun w I => w = v ∧ I = I1) (fun w I q => by obtain ⟨rfl, rfl⟩ := q; rfl) I v I1 h1 ⟨rfl, rfl⟩
  · cases h
theorem S_R_sighted {d : Nat} (hd : 2 ≤ d) : Snd L X d 281 3 (W_R_sighted F_R_sighted) := by
  obtain ⟨e, rfl⟩ : ∃ e, d = e + 1 := ⟨d - 1, by omega⟩
  exact w_R_sighted ⟨S_R_isIn (by omega), S_R_isStreet (by omega), trivial⟩
set_option maxRecDepth 100000 in
theorem z_R_canSpeak : pT[295]? = some (q_R_canSpeak, 2, 3, 2, 12) := rfl
def W_R_canSpeak (F : Int32 → M Int32) : CSem := fun _ args k => match args with
  | [(t0, .ref a0), (_, .int a1)] => mB (Nat.beq t0 112) <| bn (F a1) fun v => k (some (0, .int v))
  | _ => fl
def cs_R_canSpeak (f_R_has : Int32 → Int32 → M Int32) : List (Nat × Nat × CSem) := [(286, 3, W_R_has f_R_has)]
def B_R_canSpeak_2 (x1 : Int32) (y : Int32) : M ((Int32) ⊕ (Int32)) :=
  bn (rd 207 53) fun v1 =>
  (if y < v1 then
    bn (ld 10 238 y) fun v2 =>
    bn (F_R_has x1 v2) fun v3 =>
    bn (ld 10 239 y) fun v4 =>
    bn (F_R_has x1 v4) fun v5 =>
    bn (ld 10 240 y) fun v6 =>
    (if v6 = (1 : Int32) then
      (if v5 = (1 : Int32) then
        (if v3 = (1 : Int32) then
          rt (.inl (y + (1 : Int32)))
        else
          bn (gdZ (0 : Int32)) fun _ => rt (.inr (0 : Int32)))
      else
        (if v3 = (0 : Int32) then
          rt (.inl (y + (1 : Int32)))
        else
          bn (gdZ (0 : Int32)) fun _ => rt (.inr (0 : Int32))))
    else
      (if v5 = (0 : Int32) then
        (if v3 = (1 : Int32) then
          rt (.inl (y + (1 : Int32)))
        else
          bn (gdZ (0 : Int32)) fun _ => rt (.inr (0 : Int32)))
      else
        (if v3 = (0 : Int32) then
          rt (.inl (y + (1 : Int32)))
        else
          bn (gdZ (0 : Int32)) fun _ => rt (.inr (0 : Int32)))))
  else
    bn (gdZ (1 : Int32)) fun _ => rt (.inr (1 : Int32)))
set_option maxRecDepth 4000 in
theorem e_b_R_canSpeak_2 (f_R_has : Int32 → Int32 → M Int32) (x1 : Int32) (y : Int32) : wf (β := (Int32) ⊕ (Int32)) L X q_R_canSpeak 2 (cs_R_canSpeak f_R_has) [2] [2] (fun pc ls st => mC (Nat.beq pc 2) (mN st <| gI ls 2 fun a2 => rt (.inl a2)) (fl)) (fun v => match v with | some (_, .int x) => rt (.inr x) | _ => fl) 45 2 [(112, .ref 207), (0, .int x1), (0, .int y)] [] = (bn (rd 207 53) fun v1 =>
  (if y < v1 then
    bn (ld 10 238 y) fun v2 =>
    bn (f_R_has x1 v2) fun v3 =>
    bn (ld 10 239 y) fun v4 =>
    bn (f_R_has x1 v4) fun v5 =>
    bn (ld 10 240 y) fun v6 =>
    (if v6 = (1 : Int32) then
      (if v5 = (1 : Int32) then
        (if v3 = (1 : Int32) then
          rt (.inl (y + (1 : Int32)))
        else
          bn (gdZ (0 : Int32)) fun _ => rt (.inr (0 : Int32)))
      else
        (if v3 = (0 : Int32) then
          rt (.inl (y + (1 : Int32)))
        else
          bn (gdZ (0 : Int32)) fun _ => rt (.inr (0 : Int32))))
    else
      (if v5 = (0 : Int32) then
        (if v3 = (1 : Int32) then
          rt (.inl (y + (1 : Int32)))
        else
          bn (gdZ (0 : Int32)) fun _ => rt (.inr (0 : Int32)))
      else
        (if v3 = (0 : Int32) then
          rt (.inl (y + (1 : Int32)))
        else
          bn (gdZ (0 : Int32)) fun _ => rt (.inr (0 : Int32)))))
  else
    bn (gdZ (1 : Int32)) fun _ => rt (.inr (1 : Int32)))) := rfl
theorem b_R_canSpeak_2 {d : Nat} (hcs : AllS L X d (cs_R_canSpeak F_R_has)) (x1 : Int32) {o : Option Value × PH} {Q : ((Int32) ⊕ (Int32)) → MI → Prop} (qb : ∀ y I, Q (.inl y) I → At L X (d + 1) 295 2 [(112, .ref 207), (0, .int x1), (0, .int y)] [] I o) (qr : ∀ v I, Q (.inr v) I → o = (some (.int v), HH I)) (y : Int32) (I : MI) (r : (Int32) ⊕ (Int32)) (I1 : MI) (h : B_R_canSpeak_2 x1 y I = some (r, I1)) (hq : Q r I1) : At L X (d + 1) 295 2 [(112, .ref 207), (0, .int x1), (0, .int y)] [] I o := by
  refine wf_ok z_R_canSpeak hcs ?_ ?_ _ _ _ _ _ ⟨rfl, trivial, trivial, trivial⟩ trivial (unm_refl _ _) ((congrFun (e_b_R_canSpeak_2 (L := L) (X := X) F_R_has x1 y) I).trans h)
  · intro pc ls st I2 h1 h2 h3 h
    rcases mC_ok h with ⟨hb, h⟩ | ⟨_, h⟩
    · have e := Nat.eq_of_beq_eq_true hb
      subst e
      obtain ⟨hst, h⟩ := mN_ok h
      subst hst
      obtain ⟨a2, n2, h⟩ := gI_ok h
      refine at_leaf (ls2 := [(112, .ref 207), (0, .int x1), (0, .int a2)]) h3.1 ⟨Or.inr ⟨_, (h3.2 0 rfl).trans rfl⟩, Or.inr ⟨_, (h3.2 1 rfl).trans rfl⟩, Or.inr n2, trivial⟩ ?_
      cases h; exact qb _ _ hq
    cases h
  · intro v I2 _ h
    split at h
    · cases h; exact qr _ _ hq
    · cases h
def K_R_canSpeak_2 (x1 : Int32) (x2 : Int32) : M (Int32) :=
  lp (B_R_canSpeak_2 x1) FU x2
theorem s_R_canSpeak_2 {d : Nat} (hcs : AllS L X d (cs_R_canSpeak F_R_has)) (x1 : Int32) (x2 : Int32) {o : Option Value × PH} {Q : (Int32) → MI → Prop} (q0 : ∀ v I, Q v I → o = (some (.int v), HH I)) (I : MI) (r : Int32) (I1 : MI) (h : K_R_canSpeak_2 x1 x2 I = some (r, I1)) (hq : Q r I1) : At L X (d + 1) 295 2 [(112, .ref 207), (0, .int x1), (0, .int x2)] [] I o := by
  unfold K_R_canSpeak_2 at h
  have w0 := fun w => at_lp (body := B_R_canSpeak_2 x1) (P := (fun (y : Int32) I => At L X (d + 1) 295 2 [(112, .ref 207), (0, .int x1), (0, .int y)] [] I o)) (Q := (fun (e : Int32) I => Q e I)) w FU x2 I r I1 h hq
  refine w0 ?_
  intro y I r I1 h hq
  exact b_R_canSpeak_2 hcs x1 (Q := SQ (fun (y : Int32) I => At L X (d + 1) 295 2 [(112, .ref 207), (0, .int x1), (0, .int y)] [] I o) (fun (e : Int32) I => Q e I)) (fun _ _ w => w) q0 y I r I1 h hq
def F_R_canSpeak (x1 : Int32) : M (Int32) :=
  K_R_canSpeak_2 x1 (0 : Int32)
set_option maxRecDepth 4000 in
theorem e_s_R_canSpeak_0 (f_R_has : Int32 → Int32 → M Int32) (k_2 : Int32 → Int32 → M (Int32)) (x1 : Int32) : wf (β := Int32) L X q_R_canSpeak 2 (cs_R_canSpeak f_R_has) [2] [2] (fun pc ls st => mC (Nat.beq pc 2) (mN st <| gI ls 2 fun a2 => k_2 x1 a2) (fl)) (fun v => match v with | some (_, .int x) => rt x | _ => fl) 45 0 [(112, .ref 207), (0, .int x1), (0, dV)] [] = (k_2 x1 (0 : Int32)) := rfl
theorem s_R_canSpeak_0 {d : Nat} (hcs : AllS L X d (cs_R_canSpeak F_R_has)) (x1 : Int32) {o : Option Value × PH} {Q : (Int32) → MI → Prop} (q0 : ∀ v I, Q v I → o = (some (.int v), HH I)) (I : MI) (r : Int32) (I1 : MI) (h : F_R_canSpeak x1 I = some (r, I1)) (hq : Q r I1) : At L X (d + 1) 295 0 [(112, .ref 207), (0, .int x1), (0, dV)] [] I o := by
  refine wf_ok z_R_canSpeak hcs ?_ ?_ _ _ _ _ _ ⟨rfl, trivial, trivial, trivial⟩ trivial (unm_refl _ _) ((congrFun (e_s_R_canSpeak_0 (L := L) (X := X) F_R_has K_R_canSpeak_2 x1) I).trans h)
  · intro pc ls st I2 h1 h2 h3 h
    rcases mC_ok h with ⟨hb, h⟩ | ⟨_, h⟩
    · have e := Nat.eq_of_beq_eq_true hb
      subst e
      obtain ⟨hst, h⟩ := mN_ok h
      subst hst
      obtain ⟨a2, n2, h⟩ := gI_ok h
      refine at_leaf (ls2 := [(112, .ref 207), (0, .int x1), (0, .int a2)]) h3.1 ⟨Or.inr ⟨_, (h3.2 0 rfl).trans rfl⟩, Or.inr ⟨_, (h3.2 1 rfl).trans rfl⟩, Or.inr n2, trivial⟩ ?_
      exact s_R_canSpeak_2 hcs x1 a2 q0 _ _ _ h hq
    cases h
  · intro v I2 _ h
    split at h
    · cases h; exact q0 _ _ hq
    · cases h
theorem w_R_canSpeak {d : Nat} (hcs : AllS L X d (cs_R_canSpeak F_R_has)) : Snd L X (d + 1) 295 2 (W_R_canSpeak F_R_canSpeak) := by
  refine ⟨_, z_R_canSpeak, rfl, fun β args k I r hty hlen h => ?_⟩
  unfold W_R_canSpeak at h
  split at h
  · rename_i t0 a0 u1 a1
    obtain ⟨hb0, h⟩ := mB_ok h
    have e0 := Nat.eq_of_beq_eq_true hb0
    have g0 : okB 112 a0 = true := e0 ▸ hty.1
    have e20 := one_112 g0
    subst e20
    obtain ⟨v, I1, h1, h2⟩ := bn_some h
    refine ⟨gf_obj (c := 12) (by decide) g0, rfl, some (0, .int v), I1, trivial, ?_, h2⟩
    exact s_R_canSpeak_0 hcs a1  (Q := fun w I => w = v ∧ I = I1) (fun w I q => by obtain ⟨rfl, rfl⟩ := q; rfl) I v I1 h1 ⟨rfl, rfl⟩
  · cases h
theorem S_R_canSpeak {d : Nat} (hd : 2 ≤ d) : Snd L X d 295 2 (W_R_canSpeak F_R_canSpeak) := by
  obtain ⟨e, rfl⟩ : ∃ e, d = e + 1 := ⟨d - 1, by omega⟩
  exact w_R_canSpeak ⟨S_R_has (by omega), trivial⟩
set_option maxRecDepth 100000 in
theorem z_R_speakers : pT[294]? = some (q_R_speakers, 2, 6, 1, 12) := rfl
def W_R_speakers (F : Int32 → M Int32) : CSem := fun _ args k => match args with
  | [(t0, .ref a0), (_, .int a1)] => mB (Nat.beq t0 112) <| bn (F a1) fun v => k (some (0, .int v))
  | _ => fl
def cs_R_speakers (f_R_canSpeak : Int32 → M Int32) (f_R_greater : Int32 → Int32 → M Int32) (f_R_isIn : Int32 → Int32 → Int32 → M Int32) (f_R_onesOf : Int32 → M Int32) : List (Nat × Nat × CSem) := [(295, 2, W_R_canSpeak f_R_canSpeak), (269, 3, W_R_greater f_R_greater), (195, 4, W_R_isIn f_R_isIn), (296, 2, W_R_onesOf f_R_onesOf)]
def B_R_speakers_29 (x1 : Int32) (y : Int32 × Int32 × Int32 × Int32) : M ((Int32 × Int32 × Int32 × Int32) ⊕ ((Int32 × Int32 × Int32))) :=
  (if y.2.2.2 < (256 : Int32) then
    bn (F_R_canSpeak y.2.2.2) fun v1 =>
    (if v1 = 0 then
      rt (.inl (y.1, y.2.1, y.2.2.1, (y.2.2.2 + (1 : Int32))))
    else
      bn (F_R_onesOf y.2.2.2) fun v2 =>
      bn (F_R_greater y.2.1 v2) fun v3 =>
      rt (.inl ((y.1 + (1 : Int32)), v3, (y.2.2.1 &&& y.2.2.2), (y.2.2.2 + (1 : Int32)))))
  else
    rt (.inr (y.1, y.2.1, y.2.2.1)))
set_option maxRecDepth 4000 in
theorem e_b_R_speakers_29 (f_R_canSpeak : Int32 → M Int32) (f_R_greater : Int32 → Int32 → M Int32) (f_R_isIn : Int32 → Int32 → Int32 → M Int32) (f_R_onesOf : Int32 → M Int32) (x1 : Int32) (y : Int32 × Int32 × Int32 × Int32) : wf (β := (Int32 × Int32 × Int32 × Int32) ⊕ ((Int32 × Int32 × Int32))) L X q_R_speakers 1 (cs_R_speakers f_R_canSpeak f_R_greater f_R_isIn f_R_onesOf) [2, 3, 4, 5] [29, 78] (fun pc ls st => mC (Nat.beq pc 29) (mN st <| gI ls 2 fun a2 => gI ls 3 fun a3 => gI ls 4 fun a4 => gI ls 5 fun a5 => rt (.inl (a2, a3, a4, a5))) (mC (Nat.beq pc 78) (mN st <| gD ls 0 <| gI ls 2 fun a2 => gI ls 3 fun a3 => gI ls 4 fun a4 => gD ls 5 <| rt (.inr (a2, a3, a4))) (fl))) (fun _ => fl) 64 29 [(112, .ref 207), (0, .int x1), (0, .int y.1), (0, .int y.2.1), (0, .int y.2.2.1), (0, .int y.2.2.2)] [] = ((if y.2.2.2 < (256 : Int32) then
    bn (f_R_canSpeak y.2.2.2) fun v1 =>
    (if v1 = 0 then
      rt (.inl (y.1, y.2.1, y.2.2.1, (y.2.2.2 + (1 : Int32))))
    else
      bn (f_R_onesOf y.2.2.2) fun v2 =>
      bn (f_R_greater y.2.1 v2) fun v3 =>
      rt (.inl ((y.1 + (1 : Int32)), v3, (y.2.2.1 &&& y.2.2.2), (y.2.2.2 + (1 : Int32)))))
  else
    rt (.inr (y.1, y.2.1, y.2.2.1)))) := rfl
theorem b_R_speakers_29 {d : Nat} (hcs : AllS L X d (cs_R_speakers F_R_canSpeak F_R_greater F_R_isIn F_R_onesOf)) (x1 : Int32) {o : Option Value × PH} {Q : ((Int32 × Int32 × Int32 × Int32) ⊕ ((Int32 × Int32 × Int32))) → MI → Prop} (qb : ∀ y I, Q (.inl y) I → At L X (d + 1) 294 29 [(112, .ref 207), (0, .int x1), (0, .int y.1), (0, .int y.2.1), (0, .int y.2.2.1), (0, .int y.2.2.2)] [] I o) (qe78 : ∀ y I, Q (.inr y) I → At L X (d + 1) 294 78 [(0, dV), (0, .int x1), (0, .int y.1), (0, .int y.2.1), (0, .int y.2.2), (0, dV)] [] I o) (y : Int32 × Int32 × Int32 × Int32) (I : MI) (r : (Int32 × Int32 × Int32 × Int32) ⊕ ((Int32 × Int32 × Int32))) (I1 : MI) (h : B_R_speakers_29 x1 y I = some (r, I1)) (hq : Q r I1) : At L X (d + 1) 294 29 [(112, .ref 207), (0, .int x1), (0, .int y.1), (0, .int y.2.1), (0, .int y.2.2.1), (0, .int y.2.2.2)] [] I o := by
  refine wf_ok z_R_speakers hcs ?_ ?_ _ _ _ _ _ ⟨rfl, trivial, trivial, trivial, trivial, trivial, trivial⟩ trivial (unm_refl _ _) ((congrFun (e_b_R_speakers_29 (L := L) (X := X) F_R_canSpeak F_R_greater F_R_isIn F_R_onesOf x1 y) I).trans h)
  · intro pc ls st I2 h1 h2 h3 h
    rcases mC_ok h with ⟨hb, h⟩ | ⟨_, h⟩
    · have e := Nat.eq_of_beq_eq_true hb
      subst e
      obtain ⟨hst, h⟩ := mN_ok h
      subst hst
      obtain ⟨a2, n2, h⟩ := gI_ok h
      obtain ⟨a3, n3, h⟩ := gI_ok h
      obtain ⟨a4, n4, h⟩ := gI_ok h
      obtain ⟨a5, n5, h⟩ := gI_ok h
      refine at_leaf (ls2 := [(112, .ref 207), (0, .int x1), (0, .int a2), (0, .int a3), (0, .int a4), (0, .int a5)]) h3.1 ⟨Or.inr ⟨_, (h3.2 0 rfl).trans rfl⟩, Or.inr ⟨_, (h3.2 1 rfl).trans rfl⟩, Or.inr n2, Or.inr n3, Or.inr n4, Or.inr n5, trivial⟩ ?_
      cases h; exact qb _ _ hq
    rcases mC_ok h with ⟨hb, h⟩ | ⟨_, h⟩
    · have e := Nat.eq_of_beq_eq_true hb
      subst e
      obtain ⟨hst, h⟩ := mN_ok h
      subst hst
      obtain ⟨n0, h⟩ := gD_ok h
      obtain ⟨a2, n2, h⟩ := gI_ok h
      obtain ⟨a3, n3, h⟩ := gI_ok h
      obtain ⟨a4, n4, h⟩ := gI_ok h
      obtain ⟨n5, h⟩ := gD_ok h
      refine at_leaf (ls2 := [(0, dV), (0, .int x1), (0, .int a2), (0, .int a3), (0, .int a4), (0, dV)]) h3.1 ⟨Or.inl ⟨rfl, n0⟩, Or.inr ⟨_, (h3.2 1 rfl).trans rfl⟩, Or.inr n2, Or.inr n3, Or.inr n4, Or.inl ⟨rfl, n5⟩, trivial⟩ ?_
      cases h; exact qe78 _ _ hq
    cases h
  · intro v I2 _ h
    cases h
def K_R_speakers_78 (x1 : Int32) (x2 : Int32) (x3 : Int32) (x4 : Int32) : M (Int32) :=
  (if x1 = 0 then
    rt x2
  else
    (if x1 = (1 : Int32) then
      rt x3
    else
      (if x2 = 0 then
        rt (0 : Int32)
      else
        rt x4)))
set_option maxRecDepth 4000 in
theorem e_s_R_speakers_78 (f_R_canSpeak : Int32 → M Int32) (f_R_greater : Int32 → Int32 → M Int32) (f_R_isIn : Int32 → Int32 → Int32 → M Int32) (f_R_onesOf : Int32 → M Int32) (x1 : Int32) (x2 : Int32) (x3 : Int32) (x4 : Int32) : wf (β := Int32) L X q_R_speakers 1 (cs_R_speakers f_R_canSpeak f_R_greater f_R_isIn f_R_onesOf) [] [29, 78] (fun _ _ _ => fl) (fun v => match v with | some (_, .int x) => rt x | _ => fl) 64 78 [(0, dV), (0, .int x1), (0, .int x2), (0, .int x3), (0, .int x4), (0, dV)] [] = ((if x1 = 0 then
    rt x2
  else
    (if x1 = (1 : Int32) then
      rt x3
    else
      (if x2 = 0 then
        rt (0 : Int32)
      else
        rt x4)))) := rfl
theorem s_R_speakers_78 {d : Nat} (hcs : AllS L X d (cs_R_speakers F_R_canSpeak F_R_greater F_R_isIn F_R_onesOf)) (x1 : Int32) (x2 : Int32) (x3 : Int32) (x4 : Int32) {o : Option Value × PH} {Q : (Int32) → MI → Prop} (q0 : ∀ v I, Q v I → o = (some (.int v), HH I)) (I : MI) (r : Int32) (I1 : MI) (h : K_R_speakers_78 x1 x2 x3 x4 I = some (r, I1)) (hq : Q r I1) : At L X (d + 1) 294 78 [(0, dV), (0, .int x1), (0, .int x2), (0, .int x3), (0, .int x4), (0, dV)] [] I o := by
  refine wf_ok z_R_speakers hcs ?_ ?_ _ _ _ _ _ ⟨trivial, trivial, trivial, trivial, trivial, trivial, trivial⟩ trivial (unm_refl _ _) ((congrFun (e_s_R_speakers_78 (L := L) (X := X) F_R_canSpeak F_R_greater F_R_isIn F_R_onesOf x1 x2 x3 x4) I).trans h)
  · intro pc ls st I2 h1 h2 h3 h
    cases h
  · intro v I2 _ h
    split at h
    · cases h; exact q0 _ _ hq
    · cases h
def K_R_speakers_29 (x1 : Int32) (x2 : Int32) (x3 : Int32) (x4 : Int32) (x5 : Int32) : M (Int32) :=
  bn (lp (B_R_speakers_29 x1) FU (x2, x3, x4, x5)) fun e => K_R_speakers_78 x1 e.1 e.2.1 e.2.2
theorem s_R_speakers_29 {d : Nat} (hcs : AllS L X d (cs_R_speakers F_R_canSpeak F_R_greater F_R_isIn F_R_onesOf)) (x1 : Int32) (x2 : Int32) (x3 : Int32) (x4 : Int32) (x5 : Int32) {o : Option Value × PH} {Q : (Int32) → MI → Prop} (q0 : ∀ v I, Q v I → o = (some (.int v), HH I)) (I : MI) (r : Int32) (I1 : MI) (h : K_R_speakers_29 x1 x2 x3 x4 x5 I = some (r, I1)) (hq : Q r I1) : At L X (d + 1) 294 29 [(112, .ref 207), (0, .int x1), (0, .int x2), (0, .int x3), (0, .int x4), (0, .int x5)] [] I o := by
  unfold K_R_speakers_29 at h
  obtain ⟨e, I2, h1, h2⟩ := bn_some h
  have w0 := fun w => at_lp (body := B_R_speakers_29 x1) (P := (fun (y : Int32 × Int32 × Int32 × Int32) I => At L X (d + 1) 294 29 [(112, .ref 207), (0, .int x1), (0, .int y.1), (0, .int y.2.1), (0, .int y.2.2.1), (0, .int y.2.2.2)] [] I o)) (Q := (fun (e : (Int32 × Int32 × Int32)) I => (K_R_speakers_78 x1 e.1 e.2.1 e.2.2) I = some (r, I1))) w FU (x2, x3, x4, x5) I e I2 h1 h2
  refine w0 ?_
  intro y I r2 I3 h hq2
  exact b_R_speakers_29 hcs x1 (Q := SQ (fun (y : Int32 × Int32 × Int32 × Int32) I => At L X (d + 1) 294 29 [(112, .ref 207), (0, .int x1), (0, .int y.1), (0, .int y.2.1), (0, .int y.2.2.1), (0, .int y.2.2.2)] [] I o) (fun (e : (Int32 × Int32 × Int32)) I => (K_R_speakers_78 x1 e.1 e.2.1 e.2.2) I = some (r, I1))) (fun _ _ w => w) (fun y I w => s_R_speakers_78 hcs x1 y.1 y.2.1 y.2.2 q0 _ _ _ w hq) y I r2 I3 h hq2
def F_R_speakers (x1 : Int32) : M (Int32) :=
  bn (wr 207 0 (0 : Int32)) fun _ =>
  bn (F_R_isIn x1 (0 : Int32) (2 : Int32)) fun v1 =>
  (if v1 = 0 then
    rt (-1 : Int32)
  else
    K_R_speakers_29 x1 (0 : Int32) (-1 : Int32) (255 : Int32) (0 : Int32))
set_option maxRecDepth 4000 in
theorem e_s_R_speakers_0 (f_R_canSpeak : Int32 → M Int32) (f_R_greater : Int32 → Int32 → M Int32) (f_R_isIn : Int32 → Int32 → Int32 → M Int32) (f_R_onesOf : Int32 → M Int32) (k_29 : Int32 → Int32 → Int32 → Int32 → Int32 → M (Int32)) (x1 : Int32) : wf (β := Int32) L X q_R_speakers 1 (cs_R_speakers f_R_canSpeak f_R_greater f_R_isIn f_R_onesOf) [2, 3, 4, 5] [29, 78] (fun pc ls st => mC (Nat.beq pc 29) (mN st <| gI ls 2 fun a2 => gI ls 3 fun a3 => gI ls 4 fun a4 => gI ls 5 fun a5 => k_29 x1 a2 a3 a4 a5) (fl)) (fun v => match v with | some (_, .int x) => rt x | _ => fl) 64 0 [(112, .ref 207), (0, .int x1), (0, dV), (0, dV), (0, dV), (0, dV)] [] = (bn (wr 207 0 (0 : Int32)) fun _ =>
  bn (f_R_isIn x1 (0 : Int32) (2 : Int32)) fun v1 =>
  (if v1 = 0 then
    rt (-1 : Int32)
  else
    k_29 x1 (0 : Int32) (-1 : Int32) (255 : Int32) (0 : Int32))) := rfl
theorem s_R_speakers_0 {d : Nat} (hcs : AllS L X d (cs_R_speakers F_R_canSpeak F_R_greater F_R_isIn F_R_onesOf)) (x1 : Int32) {o : Option Value × PH} {Q : (Int32) → MI → Prop} (q0 : ∀ v I, Q v I → o = (some (.int v), HH I)) (I : MI) (r : Int32) (I1 : MI) (h : F_R_speakers x1 I = some (r, I1)) (hq : Q r I1) : At L X (d + 1) 294 0 [(112, .ref 207), (0, .int x1), (0, dV), (0, dV), (0, dV), (0, dV)] [] I o := by
  refine wf_ok z_R_speakers hcs ?_ ?_ _ _ _ _ _ ⟨rfl, trivial, trivial, trivial, trivial, trivial, trivial⟩ trivial (unm_refl _ _) ((congrFun (e_s_R_speakers_0 (L := L) (X := X) F_R_canSpeak F_R_greater F_R_isIn F_R_onesOf K_R_speakers_29 x1) I).trans h)
  · intro pc ls st I2 h1 h2 h3 h
    rcases mC_ok h with ⟨hb, h⟩ | ⟨_, h⟩
    · have e := Nat.eq_of_beq_eq_true hb
      subst e
      obtain ⟨hst, h⟩ := mN_ok h
      subst hst
      obtain ⟨a2, n2, h⟩ := gI_ok h
      obtain ⟨a3, n3, h⟩ := gI_ok h
      obtain ⟨a4, n4, h⟩ := gI_ok h
      obtain ⟨a5, n5, h⟩ := gI_ok h
      refine at_leaf (ls2 := [(112, .ref 207), (0, .int x1), (0, .int a2), (0, .int a3), (0, .int a4), (0, .int a5)]) h3.1 ⟨Or.inr ⟨_, (h3.2 0 rfl).trans rfl⟩, Or.inr ⟨_, (h3.2 1 rfl).trans rfl⟩, Or.inr n2, Or.inr n3, Or.inr n4, Or.inr n5, trivial⟩ ?_
      exact s_R_speakers_29 hcs x1 a2 a3 a4 a5 q0 _ _ _ h hq
    cases h
  · intro v I2 _ h
    split at h
    · cases h; exact q0 _ _ hq
    · cases h
theorem w_R_speakers {d : Nat} (hcs : AllS L X d (cs_R_speakers F_R_canSpeak F_R_greater F_R_isIn F_R_onesOf)) : Snd L X (d + 1) 294 2 (W_R_speakers F_R_speakers) := by
  refine ⟨_, z_R_speakers, rfl, fun β args k I r hty hlen h => ?_⟩
  unfold W_R_speakers at h
  split at h
  · rename_i t0 a0 u1 a1
    obtain ⟨hb0, h⟩ := mB_ok h
    have e0 := Nat.eq_of_beq_eq_true hb0
    have g0 : okB 112 a0 = true := e0 ▸ hty.1
    have e20 := one_112 g0
    subst e20
    obtain ⟨v, I1, h1, h2⟩ := bn_some h
    refine ⟨gf_obj (c := 12) (by decide) g0, rfl, some (0, .int v), I1, trivial, ?_, h2⟩
    exact s_R_speakers_0 hcs a1  (Q := fun w I => w = v ∧ I = I1) (fun w I q => by obtain ⟨rfl, rfl⟩ := q; rfl) I v I1 h1 ⟨rfl, rfl⟩
  · cases h
theorem S_R_speakers {d : Nat} (hd : 3 ≤ d) : Snd L X d 294 2 (W_R_speakers F_R_speakers) := by
  obtain ⟨e, rfl⟩ : ∃ e, d = e + 1 := ⟨d - 1, by omega⟩
  exact w_R_speakers ⟨S_R_canSpeak (by omega), S_R_greater (by omega), S_R_isIn (by omega), S_R_onesOf (by omega), trivial⟩
set_option maxRecDepth 100000 in
theorem z_R_state : pT[193]? = some (q_R_state, 2, 3, 1, 12) := rfl
def W_R_state (F : Int32 → M Int32) : CSem := fun _ args k => match args with
  | [(t0, .ref a0), (_, .int a1)] => mB (Nat.beq t0 112) <| bn (F a1) fun v => k (some (0, .int v))
  | _ => fl
def cs_R_state : List (Nat × Nat × CSem) := []
def F_R_state (x1 : Int32) : M (Int32) :=
  bn (wr 207 0 (0 : Int32)) fun _ =>
  bn (ld 95 208 (2 : Int32)) fun v1 =>
  bn (sr 95 208 (2 : Int32) x1) fun _ =>
  bn (wr 207 3 (0 : Int32)) fun _ =>
  rt v1
set_option maxRecDepth 4000 in
theorem e_s_R_state_0 (x1 : Int32) : wf (β := Int32) L X q_R_state 1 cs_R_state [2] [] (fun _ _ _ => fl) (fun v => match v with | some (_, .int x) => rt x | _ => fl) 23 0 [(112, .ref 207), (0, .int x1), (0, dV)] [] = (bn (wr 207 0 (0 : Int32)) fun _ =>
  bn (ld 95 208 (2 : Int32)) fun v1 =>
  bn (sr 95 208 (2 : Int32) x1) fun _ =>
  bn (wr 207 3 (0 : Int32)) fun _ =>
  rt v1) := rfl
theorem s_R_state_0 {d : Nat} (hcs : AllS L X d cs_R_state) (x1 : Int32) {o : Option Value × PH} {Q : (Int32) → MI → Prop} (q0 : ∀ v I, Q v I → o = (some (.int v), HH I)) (I : MI) (r : Int32) (I1 : MI) (h : F_R_state x1 I = some (r, I1)) (hq : Q r I1) : At L X (d + 1) 193 0 [(112, .ref 207), (0, .int x1), (0, dV)] [] I o := by
  refine wf_ok z_R_state hcs ?_ ?_ _ _ _ _ _ ⟨rfl, trivial, trivial, trivial⟩ trivial (unm_refl _ _) ((congrFun (e_s_R_state_0 (L := L) (X := X) x1) I).trans h)
  · intro pc ls st I2 h1 h2 h3 h
    cases h
  · intro v I2 _ h
    split at h
    · cases h; exact q0 _ _ hq
    · cases h
theorem w_R_state {d : Nat} (hcs : AllS L X d cs_R_state) : Snd L X (d + 1) 193 2 (W_R_state F_R_state) := by
  refine ⟨_, z_R_state, rfl, fun β args k I r hty hlen h => ?_⟩
  unfold W_R_state at h
  split at h
  · rename_i t0 a0 u1 a1
    obtain ⟨hb0, h⟩ := mB_ok h
    have e0 := Nat.eq_of_beq_eq_true hb0
    have g0 : okB 112 a0 = true := e0 ▸ hty.1
    have e20 := one_112 g0
    subst e20
    obtain ⟨v, I1, h1, h2⟩ := bn_some h
    refine ⟨gf_obj (c := 12) (by decide) g0, rfl, some (0, .int v), I1, trivial, ?_, h2⟩
    exact s_R_state_0 hcs a1  (Q := fun w I => w = v ∧ I = I1) (fun w I q => by obtain ⟨rfl, rfl⟩ := q; rfl) I v I1 h1 ⟨rfl, rfl⟩
  · cases h
theorem S_R_state {d : Nat} (hd : 1 ≤ d) : Snd L X d 193 2 (W_R_state F_R_state) := by
  obtain ⟨e, rfl⟩ : ∃ e, d = e + 1 := ⟨d - 1, by omega⟩
  exact w_R_state trivial
end
