/-! methods (written by wip/tools/gen_f.py) -/
section
variable {L : Nat} {X : Nat → Int32}
set_option maxRecDepth 100000 in
theorem z_Riddles_placeName : pT[139]? = some (q_Riddles_placeName, 3, 4, 0, 6) := rfl
def W_Riddles_placeName (F : Int32 → Int32 → M Unit) : CSem := fun _ args k => match args with
  | [(t0, .ref a0), (_, .int a1), (_, .int a2)] => mB (Nat.beq t0 106) <| bn (F a1 a2) fun _ => k none
  | _ => fl
set_option maxRecDepth 100000 in
theorem z_Riddles_tryPersons : pT[141]? = some (q_Riddles_tryPersons, 3, 5, 0, 6) := rfl
def W_Riddles_tryPersons (F : Int32 → Int32 → M Unit) : CSem := fun _ args k => match args with
  | [(t0, .ref a0), (_, .int a1), (_, .int a2)] => mB (Nat.beq t0 106) <| bn (F a1 a2) fun _ => k none
  | _ => fl
def cs_Riddles_placeName (f_Riddles_nextApart : Int32 → M Int32) (f_Riddles_tryPersons : Int32 → Int32 → M Unit) : List (Nat × Nat × CSem) := [(140, 2, W_Riddles_nextApart f_Riddles_nextApart), (141, 3, W_Riddles_tryPersons f_Riddles_tryPersons)]
def K_Riddles_placeName_0 (f_Riddles_tryPersons : Int32 → Int32 → M Unit) (x1 : Int32) (x2 : Int32) : M (Unit) :=
  bn (rd 195 4) fun v1 =>
  (if x2 < v1 then
    bn (F_Riddles_nextApart x1) fun v2 =>
    (if v2 < (10 : Int32) then
      bn (f_Riddles_tryPersons v2 x2) fun _ =>
      rt ()
    else
      bn (wr 195 4 x2) fun _ =>
      rt ())
  else
    rt ())
set_option maxRecDepth 4000 in
theorem e_s_Riddles_placeName_0 (f_Riddles_nextApart : Int32 → M Int32) (f_Riddles_tryPersons : Int32 → Int32 → M Unit) (x1 : Int32) (x2 : Int32) : wf (β := Unit) L X q_Riddles_placeName 0 (cs_Riddles_placeName f_Riddles_nextApart f_Riddles_tryPersons) [3] [] (fun _ _ _ => fl) (fun v => match v with | none => rt () | _ => fl) 26 0 [(106, .ref 195), (0, .int x1), (0, .int x2), (0, dV)] [] = (bn (rd 195 4) fun v1 =>
  (if x2 < v1 then
    bn (f_Riddles_nextApart x1) fun v2 =>
    (if v2 < (10 : Int32) then
      bn (f_Riddles_tryPersons v2 x2) fun _ =>
      rt ()
    else
      bn (wr 195 4 x2) fun _ =>
      rt ())
  else
    rt ())) := rfl
theorem s_Riddles_placeName_0 {d : Nat} (f_Riddles_tryPersons : Int32 → Int32 → M Unit) (hcs : AllS L X d (cs_Riddles_placeName F_Riddles_nextApart f_Riddles_tryPersons)) (x1 : Int32) (x2 : Int32) {o : Option Value × PH} {Q : (Unit) → MI → Prop} (q0 : ∀ v I, Q v I → o = (none, HH I)) (I : MI) (r : Unit) (I1 : MI) (h : K_Riddles_placeName_0 f_Riddles_tryPersons x1 x2 I = some (r, I1)) (hq : Q r I1) : At L X (d + 1) 139 0 [(106, .ref 195), (0, .int x1), (0, .int x2), (0, dV)] [] I o := by
  refine wf_ok z_Riddles_placeName hcs ?_ ?_ _ _ _ _ _ ⟨rfl, trivial, trivial, trivial, trivial⟩ trivial (unm_refl _ _) ((congrFun (e_s_Riddles_placeName_0 (L := L) (X := X) F_Riddles_nextApart f_Riddles_tryPersons x1 x2) I).trans h)
  · intro pc ls st I2 h1 h2 h3 h
    cases h
  · intro v I2 _ h
    split at h
    · cases h; exact q0 _ _ hq
    · cases h
theorem w_Riddles_placeName {d : Nat} (f_Riddles_tryPersons : Int32 → Int32 → M Unit) (hcs : AllS L X d (cs_Riddles_placeName F_Riddles_nextApart f_Riddles_tryPersons)) : Snd L X (d + 1) 139 3 (W_Riddles_placeName (K_Riddles_placeName_0 f_Riddles_tryPersons)) := by
  refine ⟨_, z_Riddles_placeName, rfl, fun β args k I r hty hlen h => ?_⟩
  unfold W_Riddles_placeName at h
  split at h
  · rename_i t0 a0 u1 a1 u2 a2
    obtain ⟨hb0, h⟩ := mB_ok h
    have e0 := Nat.eq_of_beq_eq_true hb0
    have g0 : okB 106 a0 = true := e0 ▸ hty.1
    have e20 := one_106 g0
    subst e20
    obtain ⟨v, I1, h1, h2⟩ := bn_some h
    refine ⟨gf_obj (c := 6) (by decide) g0, rfl, none, I1, trivial, ?_, h2⟩
    exact s_Riddles_placeName_0 f_Riddles_tryPersons hcs a1 a2  (Q := fun w I => w = v ∧ I = I1) (fun w I q => by obtain ⟨rfl, rfl⟩ := q; rfl) I v I1 h1 ⟨rfl, rfl⟩
  · cases h
def cs_Riddles_tryPersons (f_Riddles_placeName : Int32 → Int32 → M Unit) : List (Nat × Nat × CSem) := [(139, 3, W_Riddles_placeName f_Riddles_placeName)]
def B_Riddles_tryPersons_2 (f_Riddles_placeName : Int32 → Int32 → M Unit) (x1 : Int32) (x2 : Int32) (y : Int32) : M ((Int32) ⊕ (Unit)) :=
  (if x2 < y then
    rt (.inr ())
  else
    (if y < (10 : Int32) then
      (if y < x2 then
        bn (ld 10 198 y) fun v2 =>
        bn (ld 10 197 x1) fun v3 =>
        (if (v2 &&& v3) = 0 then
          bn (sr 10 198 y (v2 ||| ((1 : Int32) <<< (x1 &&& 31)))) fun _ =>
          bn (f_Riddles_placeName (x1 + (1 : Int32)) (if x2 < (y + (1 : Int32)) then (y + (1 : Int32)) else x2)) fun _ =>
          bn (sr 10 198 y v2) fun _ =>
          rt (.inl (y + (1 : Int32)))
        else
          rt (.inl (y + (1 : Int32))))
      else
        bn (ld 10 197 x1) fun v1 =>
        (if ((0 : Int32) &&& v1) = 0 then
          bn (sr 10 198 y ((0 : Int32) ||| ((1 : Int32) <<< (x1 &&& 31)))) fun _ =>
          bn (f_Riddles_placeName (x1 + (1 : Int32)) (if x2 < (y + (1 : Int32)) then (y + (1 : Int32)) else x2)) fun _ =>
          bn (sr 10 198 y (0 : Int32)) fun _ =>
          rt (.inl (y + (1 : Int32)))
        else
          rt (.inl (y + (1 : Int32)))))
    else
      rt (.inr ())))
set_option maxRecDepth 4000 in
theorem e_b_Riddles_tryPersons_2 (f_Riddles_placeName : Int32 → Int32 → M Unit) (x1 : Int32) (x2 : Int32) (y : Int32) : wf (β := (Int32) ⊕ (Unit)) L X q_Riddles_tryPersons 0 (cs_Riddles_tryPersons f_Riddles_placeName) [3, 4] [2] (fun pc ls st => mC (Nat.beq pc 2) (mN st <| gI ls 3 fun a3 => gD ls 4 <| rt (.inl a3)) (fl)) (fun v => match v with | none => rt (.inr ()) | _ => fl) 57 2 [(106, .ref 195), (0, .int x1), (0, .int x2), (0, .int y), (0, dV)] [] = ((if x2 < y then
    rt (.inr ())
  else
    (if y < (10 : Int32) then
      (if y < x2 then
        bn (ld 10 198 y) fun v2 =>
        bn (ld 10 197 x1) fun v3 =>
        (if (v2 &&& v3) = 0 then
          bn (sr 10 198 y (v2 ||| ((1 : Int32) <<< (x1 &&& 31)))) fun _ =>
          bn (f_Riddles_placeName (x1 + (1 : Int32)) (if x2 < (y + (1 : Int32)) then (y + (1 : Int32)) else x2)) fun _ =>
          bn (sr 10 198 y v2) fun _ =>
          rt (.inl (y + (1 : Int32)))
        else
          rt (.inl (y + (1 : Int32))))
      else
        bn (ld 10 197 x1) fun v1 =>
        (if ((0 : Int32) &&& v1) = 0 then
          bn (sr 10 198 y ((0 : Int32) ||| ((1 : Int32) <<< (x1 &&& 31)))) fun _ =>
          bn (f_Riddles_placeName (x1 + (1 : Int32)) (if x2 < (y + (1 : Int32)) then (y + (1 : Int32)) else x2)) fun _ =>
          bn (sr 10 198 y (0 : Int32)) fun _ =>
          rt (.inl (y + (1 : Int32)))
        else
          rt (.inl (y + (1 : Int32)))))
    else
      rt (.inr ())))) := rfl
theorem b_Riddles_tryPersons_2 {d : Nat} (f_Riddles_placeName : Int32 → Int32 → M Unit) (hcs : AllS L X d (cs_Riddles_tryPersons f_Riddles_placeName)) (x1 : Int32) (x2 : Int32) {o : Option Value × PH} {Q : ((Int32) ⊕ (Unit)) → MI → Prop} (qb : ∀ y I, Q (.inl y) I → At L X (d + 1) 141 2 [(106, .ref 195), (0, .int x1), (0, .int x2), (0, .int y), (0, dV)] [] I o) (qr : ∀ v I, Q (.inr v) I → o = (none, HH I)) (y : Int32) (I : MI) (r : (Int32) ⊕ (Unit)) (I1 : MI) (h : B_Riddles_tryPersons_2 f_Riddles_placeName x1 x2 y I = some (r, I1)) (hq : Q r I1) : At L X (d + 1) 141 2 [(106, .ref 195), (0, .int x1), (0, .int x2), (0, .int y), (0, dV)] [] I o := by
  refine wf_ok z_Riddles_tryPersons hcs ?_ ?_ _ _ _ _ _ ⟨rfl, trivial, trivial, trivial, trivial, trivial⟩ trivial (unm_refl _ _) ((congrFun (e_b_Riddles_tryPersons_2 (L := L) (X := X) f_Riddles_placeName x1 x2 y) I).trans h)
  · intro pc ls st I2 h1 h2 h3 h
    rcases mC_ok h with ⟨hb, h⟩ | ⟨_, h⟩
    · have e := Nat.eq_of_beq_eq_true hb
      subst e
      obtain ⟨hst, h⟩ := mN_ok h
      subst hst
      obtain ⟨a3, n3, h⟩ := gI_ok h
      obtain ⟨n4, h⟩ := gD_ok h
      refine at_leaf (ls2 := [(106, .ref 195), (0, .int x1), (0, .int x2), (0, .int a3), (0, dV)]) h3.1 ⟨Or.inr ⟨_, (h3.2 0 rfl).trans rfl⟩, Or.inr ⟨_, (h3.2 1 rfl).trans rfl⟩, Or.inr ⟨_, (h3.2 2 rfl).trans rfl⟩, Or.inr n3, Or.inl ⟨rfl, n4⟩, trivial⟩ ?_
      cases h; exact qb _ _ hq
    cases h
  · intro v I2 _ h
    split at h
    · cases h; exact qr _ _ hq
    · cases h
def K_Riddles_tryPersons_2 (f_Riddles_placeName : Int32 → Int32 → M Unit) (x1 : Int32) (x2 : Int32) (x3 : Int32) : M (Unit) :=
  lp (B_Riddles_tryPersons_2 f_Riddles_placeName x1 x2) FU x3
theorem s_Riddles_tryPersons_2 {d : Nat} (f_Riddles_placeName : Int32 → Int32 → M Unit) (hcs : AllS L X d (cs_Riddles_tryPersons f_Riddles_placeName)) (x1 : Int32) (x2 : Int32) (x3 : Int32) {o : Option Value × PH} {Q : (Unit) → MI → Prop} (q0 : ∀ v I, Q v I → o = (none, HH I)) (I : MI) (r : Unit) (I1 : MI) (h : K_Riddles_tryPersons_2 f_Riddles_placeName x1 x2 x3 I = some (r, I1)) (hq : Q r I1) : At L X (d + 1) 141 2 [(106, .ref 195), (0, .int x1), (0, .int x2), (0, .int x3), (0, dV)] [] I o := by
  unfold K_Riddles_tryPersons_2 at h
  have w0 := fun w => at_lp (body := B_Riddles_tryPersons_2 f_Riddles_placeName x1 x2) (P := (fun (y : Int32) I => At L X (d + 1) 141 2 [(106, .ref 195), (0, .int x1), (0, .int x2), (0, .int y), (0, dV)] [] I o)) (Q := (fun (e : Unit) I => Q e I)) w FU x3 I r I1 h hq
  refine w0 ?_
  intro y I r I1 h hq
  exact b_Riddles_tryPersons_2 f_Riddles_placeName hcs x1 x2 (Q := SQ (fun (y : Int32) I => At L X (d + 1) 141 2 [(106, .ref 195), (0, .int x1), (0, .int x2), (0, .int y), (0, dV)] [] I o) (fun (e : Unit) I => Q e I)) (fun _ _ w => w) q0 y I r I1 h hq
def K_Riddles_tryPersons_0 (f_Riddles_placeName : Int32 → Int32 → M Unit) (x1 : Int32) (x2 : Int32) : M (Unit) :=
  K_Riddles_tryPersons_2 f_Riddles_placeName x1 x2 (0 : Int32)
set_option maxRecDepth 4000 in
theorem e_s_Riddles_tryPersons_0 (f_Riddles_placeName : Int32 → Int32 → M Unit) (k_2 : Int32 → Int32 → Int32 → M (Unit)) (x1 : Int32) (x2 : Int32) : wf (β := Unit) L X q_Riddles_tryPersons 0 (cs_Riddles_tryPersons f_Riddles_placeName) [3] [2] (fun pc ls st => mC (Nat.beq pc 2) (mN st <| gI ls 3 fun a3 => gD ls 4 <| k_2 x1 x2 a3) (fl)) (fun v => match v with | none => rt () | _ => fl) 57 0 [(106, .ref 195), (0, .int x1), (0, .int x2), (0, dV), (0, dV)] [] = (k_2 x1 x2 (0 : Int32)) := rfl
theorem s_Riddles_tryPersons_0 {d : Nat} (f_Riddles_placeName : Int32 → Int32 → M Unit) (hcs : AllS L X d (cs_Riddles_tryPersons f_Riddles_placeName)) (x1 : Int32) (x2 : Int32) {o : Option Value × PH} {Q : (Unit) → MI → Prop} (q0 : ∀ v I, Q v I → o = (none, HH I)) (I : MI) (r : Unit) (I1 : MI) (h : K_Riddles_tryPersons_0 f_Riddles_placeName x1 x2 I = some (r, I1)) (hq : Q r I1) : At L X (d + 1) 141 0 [(106, .ref 195), (0, .int x1), (0, .int x2), (0, dV), (0, dV)] [] I o := by
  refine wf_ok z_Riddles_tryPersons hcs ?_ ?_ _ _ _ _ _ ⟨rfl, trivial, trivial, trivial, trivial, trivial⟩ trivial (unm_refl _ _) ((congrFun (e_s_Riddles_tryPersons_0 (L := L) (X := X) f_Riddles_placeName (K_Riddles_tryPersons_2 f_Riddles_placeName) x1 x2) I).trans h)
  · intro pc ls st I2 h1 h2 h3 h
    rcases mC_ok h with ⟨hb, h⟩ | ⟨_, h⟩
    · have e := Nat.eq_of_beq_eq_true hb
      subst e
      obtain ⟨hst, h⟩ := mN_ok h
      subst hst
      obtain ⟨a3, n3, h⟩ := gI_ok h
      obtain ⟨n4, h⟩ := gD_ok h
      refine at_leaf (ls2 := [(106, .ref 195), (0, .int x1), (0, .int x2), (0, .int a3), (0, dV)]) h3.1 ⟨Or.inr ⟨_, (h3.2 0 rfl).trans rfl⟩, Or.inr ⟨_, (h3.2 1 rfl).trans rfl⟩, Or.inr ⟨_, (h3.2 2 rfl).trans rfl⟩, Or.inr n3, Or.inl ⟨rfl, n4⟩, trivial⟩ ?_
      exact s_Riddles_tryPersons_2 f_Riddles_placeName hcs x1 x2 a3 q0 _ _ _ h hq
    cases h
  · intro v I2 _ h
    split at h
    · cases h; exact q0 _ _ hq
    · cases h
theorem w_Riddles_tryPersons {d : Nat} (f_Riddles_placeName : Int32 → Int32 → M Unit) (hcs : AllS L X d (cs_Riddles_tryPersons f_Riddles_placeName)) : Snd L X (d + 1) 141 3 (W_Riddles_tryPersons (K_Riddles_tryPersons_0 f_Riddles_placeName)) := by
  refine ⟨_, z_Riddles_tryPersons, rfl, fun β args k I r hty hlen h => ?_⟩
  unfold W_Riddles_tryPersons at h
  split at h
  · rename_i t0 a0 u1 a1 u2 a2
    obtain ⟨hb0, h⟩ := mB_ok h
    have e0 := Nat.eq_of_beq_eq_true hb0
    have g0 : okB 106 a0 = true := e0 ▸ hty.1
    have e20 := one_106 g0
    subst e20
    obtain ⟨v, I1, h1, h2⟩ := bn_some h
    refine ⟨gf_obj (c := 6) (by decide) g0, rfl, none, I1, trivial, ?_, h2⟩
    exact s_Riddles_tryPersons_0 f_Riddles_placeName hcs a1 a2  (Q := fun w I => w = v ∧ I = I1) (fun w I q => by obtain ⟨rfl, rfl⟩ := q; rfl) I v I1 h1 ⟨rfl, rfl⟩
  · cases h
def G_Riddles_placeName : Nat → Int32 → Int32 → M Unit
  | 0 => fun _ _ => fl
  | n + 1 => K_Riddles_placeName_0 (K_Riddles_tryPersons_0 (G_Riddles_placeName n))
def F_Riddles_placeName : Int32 → Int32 → M Unit := G_Riddles_placeName 13
theorem SG_Riddles_placeName : ∀ (n d : Nat), 2 * n + 2 ≤ d → Snd L X d 139 3 (W_Riddles_placeName (G_Riddles_placeName n)) := by
  intro n
  induction n with
  | zero =>
    intro d _
    refine ⟨_, z_Riddles_placeName, rfl, fun β args k I r hty hlen h => ?_⟩
    unfold W_Riddles_placeName at h
    split at h
    · obtain ⟨_, h⟩ := mB_ok h
      obtain ⟨v, I1, h1, _⟩ := bn_some h
      cases h1
    · cases h
  | succ n ih =>
    intro d hd
    obtain ⟨e, rfl⟩ : ∃ e, d = e + 2 := ⟨d - 2, by omega⟩
    exact w_Riddles_placeName (K_Riddles_tryPersons_0 (G_Riddles_placeName n)) ⟨S_Riddles_nextApart (by omega), w_Riddles_tryPersons (G_Riddles_placeName n) ⟨ih e (by omega), trivial⟩, trivial⟩
theorem S_Riddles_placeName {d : Nat} (hd : 28 ≤ d) : Snd L X d 139 3 (W_Riddles_placeName F_Riddles_placeName) := SG_Riddles_placeName 13 d (by omega)
set_option maxRecDepth 100000 in
theorem z_Riddles_fewestNamed : pT[138]? = some (q_Riddles_fewestNamed, 1, 1, 1, 6) := rfl
def W_Riddles_fewestNamed (F : M Int32) : CSem := fun _ args k => match args with
  | [(t0, .ref a0)] => mB (Nat.beq t0 106) <| bn (F) fun v => k (some (0, .int v))
  | _ => fl
def cs_Riddles_fewestNamed (f_Riddles_groupsCanBe : M Int32) (f_Riddles_placeName : Int32 → Int32 → M Unit) : List (Nat × Nat × CSem) := [(137, 1, W_Riddles_groupsCanBe f_Riddles_groupsCanBe), (139, 3, W_Riddles_placeName f_Riddles_placeName)]
def F_Riddles_fewestNamed : M (Int32) :=
  bn (F_Riddles_groupsCanBe) fun v1 =>
  (if v1 = 0 then
    rt (-1 : Int32)
  else
    bn (wr 195 4 (10 : Int32)) fun _ =>
    bn (F_Riddles_placeName (0 : Int32) (0 : Int32)) fun _ =>
    bn (rd 195 4) fun v2 =>
    rt (if (1 : Int32) < v2 then v2 else (1 : Int32)))
set_option maxRecDepth 4000 in
theorem e_s_Riddles_fewestNamed_0 (f_Riddles_groupsCanBe : M Int32) (f_Riddles_placeName : Int32 → Int32 → M Unit) : wf (β := Int32) L X q_Riddles_fewestNamed 1 (cs_Riddles_fewestNamed f_Riddles_groupsCanBe f_Riddles_placeName) [] [] (fun _ _ _ => fl) (fun v => match v with | some (_, .int x) => rt x | _ => fl) 22 0 [(106, .ref 195)] [] = (bn (f_Riddles_groupsCanBe) fun v1 =>
  (if v1 = 0 then
    rt (-1 : Int32)
  else
    bn (wr 195 4 (10 : Int32)) fun _ =>
    bn (f_Riddles_placeName (0 : Int32) (0 : Int32)) fun _ =>
    bn (rd 195 4) fun v2 =>
    rt (if (1 : Int32) < v2 then v2 else (1 : Int32)))) := rfl
theorem s_Riddles_fewestNamed_0 {d : Nat} (hcs : AllS L X d (cs_Riddles_fewestNamed F_Riddles_groupsCanBe F_Riddles_placeName)) {o : Option Value × PH} {Q : (Int32) → MI → Prop} (q0 : ∀ v I, Q v I → o = (some (.int v), HH I)) (I : MI) (r : Int32) (I1 : MI) (h : F_Riddles_fewestNamed I = some (r, I1)) (hq : Q r I1) : At L X (d + 1) 138 0 [(106, .ref 195)] [] I o := by
  refine wf_ok z_Riddles_fewestNamed hcs ?_ ?_ _ _ _ _ _ ⟨rfl, trivial⟩ trivial (unm_refl _ _) ((congrFun (e_s_Riddles_fewestNamed_0 (L := L) (X := X) F_Riddles_groupsCanBe F_Riddles_placeName) I).trans h)
  · intro pc ls st I2 h1 h2 h3 h
    cases h
  · intro v I2 _ h
    split at h
    · cases h; exact q0 _ _ hq
    · cases h
theorem w_Riddles_fewestNamed {d : Nat} (hcs : AllS L X d (cs_Riddles_fewestNamed F_Riddles_groupsCanBe F_Riddles_placeName)) : Snd L X (d + 1) 138 1 (W_Riddles_fewestNamed F_Riddles_fewestNamed) := by
  refine ⟨_, z_Riddles_fewestNamed, rfl, fun β args k I r hty hlen h => ?_⟩
  unfold W_Riddles_fewestNamed at h
  split at h
  · rename_i t0 a0
    obtain ⟨hb0, h⟩ := mB_ok h
    have e0 := Nat.eq_of_beq_eq_true hb0
    have g0 : okB 106 a0 = true := e0 ▸ hty.1
    have e20 := one_106 g0
    subst e20
    obtain ⟨v, I1, h1, h2⟩ := bn_some h
    refine ⟨gf_obj (c := 6) (by decide) g0, rfl, some (0, .int v), I1, trivial, ?_, h2⟩
    exact s_Riddles_fewestNamed_0 hcs   (Q := fun w I => w = v ∧ I = I1) (fun w I q => by obtain ⟨rfl, rfl⟩ := q; rfl) I v I1 h1 ⟨rfl, rfl⟩
  · cases h
theorem S_Riddles_fewestNamed {d : Nat} (hd : 29 ≤ d) : Snd L X d 138 1 (W_Riddles_fewestNamed F_Riddles_fewestNamed) := by
  obtain ⟨e, rfl⟩ : ∃ e, d = e + 1 := ⟨d - 1, by omega⟩
  exact w_Riddles_fewestNamed ⟨S_Riddles_groupsCanBe (by omega), S_Riddles_placeName (by omega), trivial⟩
set_option maxRecDepth 100000 in
theorem z_A_names : pT[133]? = some (q_A_names, 2, 2, 1, 11) := rfl
def W_A_names (F : Int32 → M Int32) : CSem := fun _ args k => match args with
  | [(t0, .ref a0), (_, .int a1)] => mB (Nat.beq t0 111) <| bn (F a1) fun v => k (some (0, .int v))
  | _ => fl
def cs_A_names (f_Riddles_fewestNamed : M Int32) (f_Riddles_groups : M Int32) (f_Riddles_groupsCanBe : M Int32) : List (Nat × Nat × CSem) := [(138, 1, W_Riddles_fewestNamed f_Riddles_fewestNamed), (134, 1, W_Riddles_groups f_Riddles_groups), (137, 1, W_Riddles_groupsCanBe f_Riddles_groupsCanBe)]
def F_A_names (x1 : Int32) : M (Int32) :=
  (if x1 = (0 : Int32) then
    bn (F_Riddles_groups) fun v1 =>
    rt v1
  else (if x1 = (1 : Int32) then
    bn (F_Riddles_groupsCanBe) fun v2 =>
    (if v2 = 0 then
      rt (0 : Int32)
    else
      rt (1 : Int32))
  else (if x1 = (2 : Int32) then
    bn (F_Riddles_fewestNamed) fun v3 =>
    rt v3
  else rt (-1 : Int32))))
set_option maxRecDepth 4000 in
theorem e_s_A_names_0 (f_Riddles_fewestNamed : M Int32) (f_Riddles_groups : M Int32) (f_Riddles_groupsCanBe : M Int32) (x1 : Int32) : wf (β := Int32) L X q_A_names 1 (cs_A_names f_Riddles_fewestNamed f_Riddles_groups f_Riddles_groupsCanBe) [] [] (fun _ _ _ => fl) (fun v => match v with | some (_, .int x) => rt x | _ => fl) 25 0 [(111, .ref 0), (0, .int x1)] [] = ((if x1 = (0 : Int32) then
    bn (f_Riddles_groups) fun v1 =>
    rt v1
  else (if x1 = (1 : Int32) then
    bn (f_Riddles_groupsCanBe) fun v2 =>
    (if v2 = 0 then
      rt (0 : Int32)
    else
      rt (1 : Int32))
  else (if x1 = (2 : Int32) then
    bn (f_Riddles_fewestNamed) fun v3 =>
    rt v3
  else rt (-1 : Int32))))) := rfl
theorem s_A_names_0 {d : Nat} (hcs : AllS L X d (cs_A_names F_Riddles_fewestNamed F_Riddles_groups F_Riddles_groupsCanBe)) (x1 : Int32) {o : Option Value × PH} {Q : (Int32) → MI → Prop} (q0 : ∀ v I, Q v I → o = (some (.int v), HH I)) (I : MI) (r : Int32) (I1 : MI) (h : F_A_names x1 I = some (r, I1)) (hq : Q r I1) : At L X (d + 1) 133 0 [(111, .ref 0), (0, .int x1)] [] I o := by
  refine wf_ok z_A_names hcs ?_ ?_ _ _ _ _ _ ⟨rfl, trivial, trivial⟩ trivial (unm_refl _ _) ((congrFun (e_s_A_names_0 (L := L) (X := X) F_Riddles_fewestNamed F_Riddles_groups F_Riddles_groupsCanBe x1) I).trans h)
  · intro pc ls st I2 h1 h2 h3 h
    cases h
  · intro v I2 _ h
    split at h
    · cases h; exact q0 _ _ hq
    · cases h
theorem w_A_names {d : Nat} (hcs : AllS L X d (cs_A_names F_Riddles_fewestNamed F_Riddles_groups F_Riddles_groupsCanBe)) : Snd L X (d + 1) 133 2 (W_A_names F_A_names) := by
  refine ⟨_, z_A_names, rfl, fun β args k I r hty hlen h => ?_⟩
  unfold W_A_names at h
  split at h
  · rename_i t0 a0 u1 a1
    obtain ⟨hb0, h⟩ := mB_ok h
    have e0 := Nat.eq_of_beq_eq_true hb0
    have g0 : okB 111 a0 = true := e0 ▸ hty.1
    have e20 := one_111 g0
    subst e20
    obtain ⟨v, I1, h1, h2⟩ := bn_some h
    refine ⟨gf_obj (c := 11) (by decide) g0, rfl, some (0, .int v), I1, trivial, ?_, h2⟩
    exact s_A_names_0 hcs a1  (Q := fun w I => w = v ∧ I = I1) (fun w I q => by obtain ⟨rfl, rfl⟩ := q; rfl) I v I1 h1 ⟨rfl, rfl⟩
  · cases h
theorem S_A_names {d : Nat} (hd : 30 ≤ d) : Snd L X d 133 2 (W_A_names F_A_names) := by
  obtain ⟨e, rfl⟩ : ∃ e, d = e + 1 := ⟨d - 1, by omega⟩
  exact w_A_names ⟨S_Riddles_fewestNamed (by omega), S_Riddles_groups (by omega), S_Riddles_groupsCanBe (by omega), trivial⟩
set_option maxRecDepth 100000 in
theorem z_Port_bestCatch : pT[175]? = some (q_Port_bestCatch, 3, 9, 1, 4) := rfl
def W_Port_bestCatch (F : Int32 → Int32 → M Int32) : CSem := fun _ args k => match args with
  | [(t0, .ref a0), (_, .int a1), (_, .int a2)] => mB (Nat.beq t0 104) <| bn (F a1 a2) fun v => k (some (0, .int v))
  | _ => fl
def cs_Port_bestCatch (f_A_within : Int32 → Int32 → Int32 → M Int32) : List (Nat × Nat × CSem) := [(18, 3, W_A_within f_A_within)]
def B_Port_bestCatch_23 (x1 : Int32) (x2 : Int32) (x3 : Int32) (x4 : Int32) (x5 : Int32) (y : Int32 × Int32) : M ((Int32 × Int32) ⊕ ((Int32))) :=
  bn (rd 2 8) fun v1 =>
  (if y.2 < v1 then
    bn (ld 18 12 y.2) fun v2 =>
    (if v2 = 0 then
      (if (1 : Int32) = 0 then
        rt (.inl ((y.1 + (0 : Int32)), (y.2 + (1 : Int32))))
      else
        bn (ld 18 9 y.2) fun v5 =>
        bn (F_A_within v5 x5 ((x5 + x1) - (1 : Int32))) fun v6 =>
        (if v6 = 0 then
          rt (.inl ((y.1 + (0 : Int32)), (y.2 + (1 : Int32))))
        else
          rt (.inl ((y.1 + (1 : Int32)), (y.2 + (1 : Int32))))))
    else
      (if (0 : Int32) = 0 then
        rt (.inl ((y.1 + (0 : Int32)), (y.2 + (1 : Int32))))
      else
        bn (ld 18 9 y.2) fun v3 =>
        bn (F_A_within v3 x5 ((x5 + x1) - (1 : Int32))) fun v4 =>
        (if v4 = 0 then
          rt (.inl ((y.1 + (0 : Int32)), (y.2 + (1 : Int32))))
        else
          rt (.inl ((y.1 + (1 : Int32)), (y.2 + (1 : Int32)))))))
  else
    rt (.inr y.1))
set_option maxRecDepth 4000 in
theorem e_b_Port_bestCatch_23 (f_A_within : Int32 → Int32 → Int32 → M Int32) (x1 : Int32) (x2 : Int32) (x3 : Int32) (x4 : Int32) (x5 : Int32) (y : Int32 × Int32) : wf (β := (Int32 × Int32) ⊕ ((Int32))) L X q_Port_bestCatch 1 (cs_Port_bestCatch f_A_within) [6, 7, 8] [8, 23, 109, 128] (fun pc ls st => mC (Nat.beq pc 23) (mN st <| gI ls 6 fun a6 => gI ls 7 fun a7 => gD ls 8 <| rt (.inl (a6, a7))) (mC (Nat.beq pc 109) (mN st <| gI ls 6 fun a6 => gD ls 7 <| gD ls 8 <| rt (.inr a6)) (fl))) (fun _ => fl) 76 23 [(104, .ref 190), (0, .int x1), (0, .int x2), (0, .int x3), (0, .int x4), (0, .int x5), (0, .int y.1), (0, .int y.2), (0, dV)] [] = (bn (rd 2 8) fun v1 =>
  (if y.2 < v1 then
    bn (ld 18 12 y.2) fun v2 =>
    (if v2 = 0 then
      (if (1 : Int32) = 0 then
        rt (.inl ((y.1 + (0 : Int32)), (y.2 + (1 : Int32))))
      else
        bn (ld 18 9 y.2) fun v5 =>
        bn (f_A_within v5 x5 ((x5 + x1) - (1 : Int32))) fun v6 =>
        (if v6 = 0 then
          rt (.inl ((y.1 + (0 : Int32)), (y.2 + (1 : Int32))))
        else
          rt (.inl ((y.1 + (1 : Int32)), (y.2 + (1 : Int32))))))
    else
      (if (0 : Int32) = 0 then
        rt (.inl ((y.1 + (0 : Int32)), (y.2 + (1 : Int32))))
      else
        bn (ld 18 9 y.2) fun v3 =>
        bn (f_A_within v3 x5 ((x5 + x1) - (1 : Int32))) fun v4 =>
        (if v4 = 0 then
          rt (.inl ((y.1 + (0 : Int32)), (y.2 + (1 : Int32))))
        else
          rt (.inl ((y.1 + (1 : Int32)), (y.2 + (1 : Int32)))))))
  else
    rt (.inr y.1))) := rfl
theorem b_Port_bestCatch_23 {d : Nat} (hcs : AllS L X d (cs_Port_bestCatch F_A_within)) (x1 : Int32) (x2 : Int32) (x3 : Int32) (x4 : Int32) (x5 : Int32) {o : Option Value × PH} {Q : ((Int32 × Int32) ⊕ ((Int32))) → MI → Prop} (qb : ∀ y I, Q (.inl y) I → At L X (d + 1) 175 23 [(104, .ref 190), (0, .int x1), (0, .int x2), (0, .int x3), (0, .int x4), (0, .int x5), (0, .int y.1), (0, .int y.2), (0, dV)] [] I o) (qe109 : ∀ y I, Q (.inr y) I → At L X (d + 1) 175 109 [(104, .ref 190), (0, .int x1), (0, .int x2), (0, .int x3), (0, .int x4), (0, .int x5), (0, .int y), (0, dV), (0, dV)] [] I o) (y : Int32 × Int32) (I : MI) (r : (Int32 × Int32) ⊕ ((Int32))) (I1 : MI) (h : B_Port_bestCatch_23 x1 x2 x3 x4 x5 y I = some (r, I1)) (hq : Q r I1) : At L X (d + 1) 175 23 [(104, .ref 190), (0, .int x1), (0, .int x2), (0, .int x3), (0, .int x4), (0, .int x5), (0, .int y.1), (0, .int y.2), (0, dV)] [] I o := by
  refine wf_ok z_Port_bestCatch hcs ?_ ?_ _ _ _ _ _ ⟨rfl, trivial, trivial, trivial, trivial, trivial, trivial, trivial, trivial, trivial⟩ trivial (unm_refl _ _) ((congrFun (e_b_Port_bestCatch_23 (L := L) (X := X) F_A_within x1 x2 x3 x4 x5 y) I).trans h)
  · intro pc ls st I2 h1 h2 h3 h
    rcases mC_ok h with ⟨hb, h⟩ | ⟨_, h⟩
    · have e := Nat.eq_of_beq_eq_true hb
      subst e
      obtain ⟨hst, h⟩ := mN_ok h
      subst hst
      obtain ⟨a6, n6, h⟩ := gI_ok h
      obtain ⟨a7, n7, h⟩ := gI_ok h
      obtain ⟨n8, h⟩ := gD_ok h
      refine at_leaf (ls2 := [(104, .ref 190), (0, .int x1), (0, .int x2), (0, .int x3), (0, .int x4), (0, .int x5), (0, .int a6), (0, .int a7), (0, dV)]) h3.1 ⟨Or.inr ⟨_, (h3.2 0 rfl).trans rfl⟩, Or.inr ⟨_, (h3.2 1 rfl).trans rfl⟩, Or.inr ⟨_, (h3.2 2 rfl).trans rfl⟩, Or.inr ⟨_, (h3.2 3 rfl).trans rfl⟩, Or.inr ⟨_, (h3.2 4 rfl).trans rfl⟩, Or.inr ⟨_, (h3.2 5 rfl).trans rfl⟩, Or.inr n6, Or.inr n7, Or.inl ⟨rfl, n8⟩, trivial⟩ ?_
      cases h; exact qb _ _ hq
    rcases mC_ok h with ⟨hb, h⟩ | ⟨_, h⟩
    · have e := Nat.eq_of_beq_eq_true hb
      subst e
      obtain ⟨hst, h⟩ := mN_ok h
      subst hst
      obtain ⟨a6, n6, h⟩ := gI_ok h
      obtain ⟨n7, h⟩ := gD_ok h
      obtain ⟨n8, h⟩ := gD_ok h
      refine at_leaf (ls2 := [(104, .ref 190), (0, .int x1), (0, .int x2), (0, .int x3), (0, .int x4), (0, .int x5), (0, .int a6), (0, dV), (0, dV)]) h3.1 ⟨Or.inr ⟨_, (h3.2 0 rfl).trans rfl⟩, Or.inr ⟨_, (h3.2 1 rfl).trans rfl⟩, Or.inr ⟨_, (h3.2 2 rfl).trans rfl⟩, Or.inr ⟨_, (h3.2 3 rfl).trans rfl⟩, Or.inr ⟨_, (h3.2 4 rfl).trans rfl⟩, Or.inr ⟨_, (h3.2 5 rfl).trans rfl⟩, Or.inr n6, Or.inl ⟨rfl, n7⟩, Or.inl ⟨rfl, n8⟩, trivial⟩ ?_
      cases h; exact qe109 _ _ hq
    cases h
  · intro v I2 _ h
    cases h
def K_Port_bestCatch_109 (x1 : Int32) (x2 : Int32) (x3 : Int32) (x4 : Int32) (x5 : Int32) (x6 : Int32) : M ((Int32 × Int32 × Int32) ⊕ ((Int32 × Int32))) :=
  (if x3 < x6 then
    rt (.inl (x6, x5, (x5 + (1 : Int32))))
  else
    rt (.inl (x3, x4, (x5 + (1 : Int32)))))
set_option maxRecDepth 4000 in
theorem e_s_Port_bestCatch_109 (f_A_within : Int32 → Int32 → Int32 → M Int32) (x1 : Int32) (x2 : Int32) (x3 : Int32) (x4 : Int32) (x5 : Int32) (x6 : Int32) : wf (β := (Int32 × Int32 × Int32) ⊕ ((Int32 × Int32))) L X q_Port_bestCatch 1 (cs_Port_bestCatch f_A_within) [3, 4, 5] [8, 23, 109, 128] (fun pc ls st => mC (Nat.beq pc 8) (mN st <| gI ls 3 fun a3 => gI ls 4 fun a4 => gI ls 5 fun a5 => gD ls 6 <| gD ls 7 <| gD ls 8 <| rt (.inl (a3, a4, a5))) (fl)) (fun _ => fl) 76 109 [(104, .ref 190), (0, .int x1), (0, .int x2), (0, .int x3), (0, .int x4), (0, .int x5), (0, .int x6), (0, dV), (0, dV)] [] = ((if x3 < x6 then
    rt (.inl (x6, x5, (x5 + (1 : Int32))))
  else
    rt (.inl (x3, x4, (x5 + (1 : Int32)))))) := rfl
theorem s_Port_bestCatch_109 {d : Nat} (hcs : AllS L X d (cs_Port_bestCatch F_A_within)) (x1 : Int32) (x2 : Int32) (x3 : Int32) (x4 : Int32) (x5 : Int32) (x6 : Int32) {o : Option Value × PH} {Q : ((Int32 × Int32 × Int32) ⊕ ((Int32 × Int32))) → MI → Prop} (qb : ∀ y I, Q (.inl y) I → At L X (d + 1) 175 8 [(104, .ref 190), (0, .int x1), (0, .int x2), (0, .int y.1), (0, .int y.2.1), (0, .int y.2.2), (0, dV), (0, dV), (0, dV)] [] I o) (qe128 : ∀ y I, Q (.inr y) I → At L X (d + 1) 175 128 [(0, dV), (0, dV), (0, .int x2), (0, .int y.1), (0, .int y.2), (0, dV), (0, dV), (0, dV), (0, dV)] [] I o) (I : MI) (r : (Int32 × Int32 × Int32) ⊕ ((Int32 × Int32))) (I1 : MI) (h : K_Port_bestCatch_109 x1 x2 x3 x4 x5 x6 I = some (r, I1)) (hq : Q r I1) : At L X (d + 1) 175 109 [(104, .ref 190), (0, .int x1), (0, .int x2), (0, .int x3), (0, .int x4), (0, .int x5), (0, .int x6), (0, dV), (0, dV)] [] I o := by
  refine wf_ok z_Port_bestCatch hcs ?_ ?_ _ _ _ _ _ ⟨rfl, trivial, trivial, trivial, trivial, trivial, trivial, trivial, trivial, trivial⟩ trivial (unm_refl _ _) ((congrFun (e_s_Port_bestCatch_109 (L := L) (X := X) F_A_within x1 x2 x3 x4 x5 x6) I).trans h)
  · intro pc ls st I2 h1 h2 h3 h
    rcases mC_ok h with ⟨hb, h⟩ | ⟨_, h⟩
    · have e := Nat.eq_of_beq_eq_true hb
      subst e
      obtain ⟨hst, h⟩ := mN_ok h
      subst hst
      obtain ⟨a3, n3, h⟩ := gI_ok h
      obtain ⟨a4, n4, h⟩ := gI_ok h
      obtain ⟨a5, n5, h⟩ := gI_ok h
      obtain ⟨n6, h⟩ := gD_ok h
      obtain ⟨n7, h⟩ := gD_ok h
      obtain ⟨n8, h⟩ := gD_ok h
      refine at_leaf (ls2 := [(104, .ref 190), (0, .int x1), (0, .int x2), (0, .int a3), (0, .int a4), (0, .int a5), (0, dV), (0, dV), (0, dV)]) h3.1 ⟨Or.inr ⟨_, (h3.2 0 rfl).trans rfl⟩, Or.inr ⟨_, (h3.2 1 rfl).trans rfl⟩, Or.inr ⟨_, (h3.2 2 rfl).trans rfl⟩, Or.inr n3, Or.inr n4, Or.inr n5, Or.inl ⟨rfl, n6⟩, Or.inl ⟨rfl, n7⟩, Or.inl ⟨rfl, n8⟩, trivial⟩ ?_
      cases h; exact qb _ _ hq
    cases h
  · intro v I2 _ h
    cases h
def K_Port_bestCatch_23 (x1 : Int32) (x2 : Int32) (x3 : Int32) (x4 : Int32) (x5 : Int32) (x6 : Int32) (x7 : Int32) : M ((Int32 × Int32 × Int32) ⊕ ((Int32 × Int32))) :=
  bn (lp (B_Port_bestCatch_23 x1 x2 x3 x4 x5) FU (x6, x7)) fun e => K_Port_bestCatch_109 x1 x2 x3 x4 x5 e
theorem s_Port_bestCatch_23 {d : Nat} (hcs : AllS L X d (cs_Port_bestCatch F_A_within)) (x1 : Int32) (x2 : Int32) (x3 : Int32) (x4 : Int32) (x5 : Int32) (x6 : Int32) (x7 : Int32) {o : Option Value × PH} {Q : ((Int32 × Int32 × Int32) ⊕ ((Int32 × Int32))) → MI → Prop} (qb : ∀ y I, Q (.inl y) I → At L X (d + 1) 175 8 [(104, .ref 190), (0, .int x1), (0, .int x2), (0, .int y.1), (0, .int y.2.1), (0, .int y.2.2), (0, dV), (0, dV), (0, dV)] [] I o) (qe128 : ∀ y I, Q (.inr y) I → At L X (d + 1) 175 128 [(0, dV), (0, dV), (0, .int x2), (0, .int y.1), (0, .int y.2), (0, dV), (0, dV), (0, dV), (0, dV)] [] I o) (I : MI) (r : (Int32 × Int32 × Int32) ⊕ ((Int32 × Int32))) (I1 : MI) (h : K_Port_bestCatch_23 x1 x2 x3 x4 x5 x6 x7 I = some (r, I1)) (hq : Q r I1) : At L X (d + 1) 175 23 [(104, .ref 190), (0, .int x1), (0, .int x2), (0, .int x3), (0, .int x4), (0, .int x5), (0, .int x6), (0, .int x7), (0, dV)] [] I o := by
  unfold K_Port_bestCatch_23 at h
  obtain ⟨e, I2, h1, h2⟩ := bn_some h
  have w0 := fun w => at_lp (body := B_Port_bestCatch_23 x1 x2 x3 x4 x5) (P := (fun (y : Int32 × Int32) I => At L X (d + 1) 175 23 [(104, .ref 190), (0, .int x1), (0, .int x2), (0, .int x3), (0, .int x4), (0, .int x5), (0, .int y.1), (0, .int y.2), (0, dV)] [] I o)) (Q := (fun (e : (Int32)) I => (K_Port_bestCatch_109 x1 x2 x3 x4 x5 e) I = some (r, I1))) w FU (x6, x7) I e I2 h1 h2
  refine w0 ?_
  intro y I r2 I3 h hq2
  exact b_Port_bestCatch_23 hcs x1 x2 x3 x4 x5 (Q := SQ (fun (y : Int32 × Int32) I => At L X (d + 1) 175 23 [(104, .ref 190), (0, .int x1), (0, .int x2), (0, .int x3), (0, .int x4), (0, .int x5), (0, .int y.1), (0, .int y.2), (0, dV)] [] I o) (fun (e : (Int32)) I => (K_Port_bestCatch_109 x1 x2 x3 x4 x5 e) I = some (r, I1))) (fun _ _ w => w) (fun y I w => s_Port_bestCatch_109 hcs x1 x2 x3 x4 x5 y qb qe128 _ _ _ w hq) y I r2 I3 h hq2
def B_Port_bestCatch_8 (x1 : Int32) (x2 : Int32) (y : Int32 × Int32 × Int32) : M ((Int32 × Int32 × Int32) ⊕ ((Int32 × Int32))) :=
  (if (10 : Int32) < (y.2.2 + x1) then
    rt (.inr (y.1, y.2.1))
  else
    K_Port_bestCatch_23 x1 x2 y.1 y.2.1 y.2.2 (0 : Int32) (0 : Int32))
set_option maxRecDepth 4000 in
theorem e_b_Port_bestCatch_8 (f_A_within : Int32 → Int32 → Int32 → M Int32) (k_23 : Int32 → Int32 → Int32 → Int32 → Int32 → Int32 → Int32 → M ((Int32 × Int32 × Int32) ⊕ ((Int32 × Int32)))) (x1 : Int32) (x2 : Int32) (y : Int32 × Int32 × Int32) : wf (β := (Int32 × Int32 × Int32) ⊕ ((Int32 × Int32))) L X q_Port_bestCatch 1 (cs_Port_bestCatch f_A_within) [6, 7] [8, 23, 109, 128] (fun pc ls st => mC (Nat.beq pc 23) (mN st <| gI ls 6 fun a6 => gI ls 7 fun a7 => gD ls 8 <| k_23 x1 x2 y.1 y.2.1 y.2.2 a6 a7) (mC (Nat.beq pc 128) (mN st <| gD ls 0 <| gD ls 1 <| gD ls 5 <| gD ls 6 <| gD ls 7 <| gD ls 8 <| rt (.inr (y.1, y.2.1))) (fl))) (fun _ => fl) 76 8 [(104, .ref 190), (0, .int x1), (0, .int x2), (0, .int y.1), (0, .int y.2.1), (0, .int y.2.2), (0, dV), (0, dV), (0, dV)] [] = ((if (10 : Int32) < (y.2.2 + x1) then
    rt (.inr (y.1, y.2.1))
  else
    k_23 x1 x2 y.1 y.2.1 y.2.2 (0 : Int32) (0 : Int32))) := rfl
theorem b_Port_bestCatch_8 {d : Nat} (hcs : AllS L X d (cs_Port_bestCatch F_A_within)) (x1 : Int32) (x2 : Int32) {o : Option Value × PH} {Q : ((Int32 × Int32 × Int32) ⊕ ((Int32 × Int32))) → MI → Prop} (qb : ∀ y I, Q (.inl y) I → At L X (d + 1) 175 8 [(104, .ref 190), (0, .int x1), (0, .int x2), (0, .int y.1), (0, .int y.2.1), (0, .int y.2.2), (0, dV), (0, dV), (0, dV)] [] I o) (qe128 : ∀ y I, Q (.inr y) I → At L X (d + 1) 175 128 [(0, dV), (0, dV), (0, .int x2), (0, .int y.1), (0, .int y.2), (0, dV), (0, dV), (0, dV), (0, dV)] [] I o) (y : Int32 × Int32 × Int32) (I : MI) (r : (Int32 × Int32 × Int32) ⊕ ((Int32 × Int32))) (I1 : MI) (h : B_Port_bestCatch_8 x1 x2 y I = some (r, I1)) (hq : Q r I1) : At L X (d + 1) 175 8 [(104, .ref 190), (0, .int x1), (0, .int x2), (0, .int y.1), (0, .int y.2.1), (0, .int y.2.2), (0, dV), (0, dV), (0, dV)] [] I o := by
  refine wf_ok z_Port_bestCatch hcs ?_ ?_ _ _ _ _ _ ⟨rfl, trivial, trivial, trivial, trivial, trivial, trivial, trivial, trivial, trivial⟩ trivial (unm_refl _ _) ((congrFun (e_b_Port_bestCatch_8 (L := L) (X := X) F_A_within K_Port_bestCatch_23 x1 x2 y) I).trans h)
  · intro pc ls st I2 h1 h2 h3 h
    rcases mC_ok h with ⟨hb, h⟩ | ⟨_, h⟩
    · have e := Nat.eq_of_beq_eq_true hb
      subst e
      obtain ⟨hst, h⟩ := mN_ok h
      subst hst
      obtain ⟨a6, n6, h⟩ := gI_ok h
      obtain ⟨a7, n7, h⟩ := gI_ok h
      obtain ⟨n8, h⟩ := gD_ok h
      refine at_leaf (ls2 := [(104, .ref 190), (0, .int x1), (0, .int x2), (0, .int y.1), (0, .int y.2.1), (0, .int y.2.2), (0, .int a6), (0, .int a7), (0, dV)]) h3.1 ⟨Or.inr ⟨_, (h3.2 0 rfl).trans rfl⟩, Or.inr ⟨_, (h3.2 1 rfl).trans rfl⟩, Or.inr ⟨_, (h3.2 2 rfl).trans rfl⟩, Or.inr ⟨_, (h3.2 3 rfl).trans rfl⟩, Or.inr ⟨_, (h3.2 4 rfl).trans rfl⟩, Or.inr ⟨_, (h3.2 5 rfl).trans rfl⟩, Or.inr n6, Or.inr n7, Or.inl ⟨rfl, n8⟩, trivial⟩ ?_
      exact s_Port_bestCatch_23 hcs x1 x2 y.1 y.2.1 y.2.2 a6 a7 qb qe128 _ _ _ h hq
    rcases mC_ok h with ⟨hb, h⟩ | ⟨_, h⟩
    · have e := Nat.eq_of_beq_eq_true hb
      subst e
      obtain ⟨hst, h⟩ := mN_ok h
      subst hst
      obtain ⟨n0, h⟩ := gD_ok h
      obtain ⟨n1, h⟩ := gD_ok h
      obtain ⟨n5, h⟩ := gD_ok h
      obtain ⟨n6, h⟩ := gD_ok h
      obtain ⟨n7, h⟩ := gD_ok h
      obtain ⟨n8, h⟩ := gD_ok h
      refine at_leaf (ls2 := [(0, dV), (0, dV), (0, .int x2), (0, .int y.1), (0, .int y.2.1), (0, dV), (0, dV), (0, dV), (0, dV)]) h3.1 ⟨Or.inl ⟨rfl, n0⟩, Or.inl ⟨rfl, n1⟩, Or.inr ⟨_, (h3.2 2 rfl).trans rfl⟩, Or.inr ⟨_, (h3.2 3 rfl).trans rfl⟩, Or.inr ⟨_, (h3.2 4 rfl).trans rfl⟩, Or.inl ⟨rfl, n5⟩, Or.inl ⟨rfl, n6⟩, Or.inl ⟨rfl, n7⟩, Or.inl ⟨rfl, n8⟩, trivial⟩ ?_
      cases h; exact qe128 _ _ hq
    cases h
  · intro v I2 _ h
    cases h
def K_Port_bestCatch_128 (x2 : Int32) (x3 : Int32) (x4 : Int32) : M (Int32) :=
  (if x2 = 0 then
    rt x3
  else
    rt x4)
set_option maxRecDepth 4000 in
theorem e_s_Port_bestCatch_128 (f_A_within : Int32 → Int32 → Int32 → M Int32) (x2 : Int32) (x3 : Int32) (x4 : Int32) : wf (β := Int32) L X q_Port_bestCatch 1 (cs_Port_bestCatch f_A_within) [] [8, 23, 109, 128] (fun _ _ _ => fl) (fun v => match v with | some (_, .int x) => rt x | _ => fl) 76 128 [(0, dV), (0, dV), (0, .int x2), (0, .int x3), (0, .int x4), (0, dV), (0, dV), (0, dV), (0, dV)] [] = ((if x2 = 0 then
    rt x3
  else
    rt x4)) := rfl
theorem s_Port_bestCatch_128 {d : Nat} (hcs : AllS L X d (cs_Port_bestCatch F_A_within)) (x2 : Int32) (x3 : Int32) (x4 : Int32) {o : Option Value × PH} {Q : (Int32) → MI → Prop} (q0 : ∀ v I, Q v I → o = (some (.int v), HH I)) (I : MI) (r : Int32) (I1 : MI) (h : K_Port_bestCatch_128 x2 x3 x4 I = some (r, I1)) (hq : Q r I1) : At L X (d + 1) 175 128 [(0, dV), (0, dV), (0, .int x2), (0, .int x3), (0, .int x4), (0, dV), (0, dV), (0, dV), (0, dV)] [] I o := by
  refine wf_ok z_Port_bestCatch hcs ?_ ?_ _ _ _ _ _ ⟨trivial, trivial, trivial, trivial, trivial, trivial, trivial, trivial, trivial, trivial⟩ trivial (unm_refl _ _) ((congrFun (e_s_Port_bestCatch_128 (L := L) (X := X) F_A_within x2 x3 x4) I).trans h)
  · intro pc ls st I2 h1 h2 h3 h
    cases h
  · intro v I2 _ h
    split at h
    · cases h; exact q0 _ _ hq
    · cases h
def K_Port_bestCatch_8 (x1 : Int32) (x2 : Int32) (x3 : Int32) (x4 : Int32) (x5 : Int32) : M (Int32) :=
  bn (lp (B_Port_bestCatch_8 x1 x2) FU (x3, x4, x5)) fun e => K_Port_bestCatch_128 x2 e.1 e.2
theorem s_Port_bestCatch_8 {d : Nat} (hcs : AllS L X d (cs_Port_bestCatch F_A_within)) (x1 : Int32) (x2 : Int32) (x3 : Int32) (x4 : Int32) (x5 : Int32) {o : Option Value × PH} {Q : (Int32) → MI → Prop} (q0 : ∀ v I, Q v I → o = (some (.int v), HH I)) (I : MI) (r : Int32) (I1 : MI) (h : K_Port_bestCatch_8 x1 x2 x3 x4 x5 I = some (r, I1)) (hq : Q r I1) : At L X (d + 1) 175 8 [(104, .ref 190), (0, .int x1), (0, .int x2), (0, .int x3), (0, .int x4), (0, .int x5), (0, dV), (0, dV), (0, dV)] [] I o := by
  unfold K_Port_bestCatch_8 at h
  obtain ⟨e, I2, h1, h2⟩ := bn_some h
  have w0 := fun w => at_lp (body := B_Port_bestCatch_8 x1 x2) (P := (fun (y : Int32 × Int32 × Int32) I => At L X (d + 1) 175 8 [(104, .ref 190), (0, .int x1), (0, .int x2), (0, .int y.1), (0, .int y.2.1), (0, .int y.2.2), (0, dV), (0, dV), (0, dV)] [] I o)) (Q := (fun (e : (Int32 × Int32)) I => (K_Port_bestCatch_128 x2 e.1 e.2) I = some (r, I1))) w FU (x3, x4, x5) I e I2 h1 h2
  refine w0 ?_
  intro y I r2 I3 h hq2
  exact b_Port_bestCatch_8 hcs x1 x2 (Q := SQ (fun (y : Int32 × Int32 × Int32) I => At L X (d + 1) 175 8 [(104, .ref 190), (0, .int x1), (0, .int x2), (0, .int y.1), (0, .int y.2.1), (0, .int y.2.2), (0, dV), (0, dV), (0, dV)] [] I o) (fun (e : (Int32 × Int32)) I => (K_Port_bestCatch_128 x2 e.1 e.2) I = some (r, I1))) (fun _ _ w => w) (fun y I w => s_Port_bestCatch_128 hcs x2 y.1 y.2 q0 _ _ _ w hq) y I r2 I3 h hq2
def F_Port_bestCatch (x1 : Int32) (x2 : Int32) : M (Int32) :=
  K_Port_bestCatch_8 x1 x2 (-1 : Int32) (0 : Int32) (0 : Int32)
set_option maxRecDepth 4000 in
theorem e_s_Port_bestCatch_0 (f_A_within : Int32 → Int32 → Int32 → M Int32) (k_8 : Int32 → Int32 → Int32 → Int32 → Int32 → M (Int32)) (x1 : Int32) (x2 : Int32) : wf (β := Int32) L X q_Port_bestCatch 1 (cs_Port_bestCatch f_A_within) [3, 4, 5] [8, 23, 109, 128] (fun pc ls st => mC (Nat.beq pc 8) (mN st <| gI ls 3 fun a3 => gI ls 4 fun a4 => gI ls 5 fun a5 => gD ls 6 <| gD ls 7 <| gD ls 8 <| k_8 x1 x2 a3 a4 a5) (fl)) (fun v => match v with | some (_, .int x) => rt x | _ => fl) 76 0 [(104, .ref 190), (0, .int x1), (0, .int x2), (0, dV), (0, dV), (0, dV), (0, dV), (0, dV), (0, dV)] [] = (k_8 x1 x2 (-1 : Int32) (0 : Int32) (0 : Int32)) := rfl
theorem s_Port_bestCatch_0 {d : Nat} (hcs : AllS L X d (cs_Port_bestCatch F_A_within)) (x1 : Int32) (x2 : Int32) {o : Option Value × PH} {Q : (Int32) → MI → Prop} (q0 : ∀ v I, Q v I → o = (some (.int v), HH I)) (I : MI) (r : Int32) (I1 : MI) (h : F_Port_bestCatch x1 x2 I = some (r, I1)) (hq : Q r I1) : At L X (d + 1) 175 0 [(104, .ref 190), (0, .int x1), (0, .int x2), (0, dV), (0, dV), (0, dV), (0, dV), (0, dV), (0, dV)] [] I o := by
  refine wf_ok z_Port_bestCatch hcs ?_ ?_ _ _ _ _ _ ⟨rfl, trivial, trivial, trivial, trivial, trivial, trivial, trivial, trivial, trivial⟩ trivial (unm_refl _ _) ((congrFun (e_s_Port_bestCatch_0 (L := L) (X := X) F_A_within K_Port_bestCatch_8 x1 x2) I).trans h)
  · intro pc ls st I2 h1 h2 h3 h
    rcases mC_ok h with ⟨hb, h⟩ | ⟨_, h⟩
    · have e := Nat.eq_of_beq_eq_true hb
      subst e
      obtain ⟨hst, h⟩ := mN_ok h
      subst hst
      obtain ⟨a3, n3, h⟩ := gI_ok h
      obtain ⟨a4, n4, h⟩ := gI_ok h
      obtain ⟨a5, n5, h⟩ := gI_ok h
      obtain ⟨n6, h⟩ := gD_ok h
      obtain ⟨n7, h⟩ := gD_ok h
      obtain ⟨n8, h⟩ := gD_ok h
      refine at_leaf (ls2 := [(104, .ref 190), (0, .int x1), (0, .int x2), (0, .int a3), (0, .int a4), (0, .int a5), (0, dV), (0, dV), (0, dV)]) h3.1 ⟨Or.inr ⟨_, (h3.2 0 rfl).trans rfl⟩, Or.inr ⟨_, (h3.2 1 rfl).trans rfl⟩, Or.inr ⟨_, (h3.2 2 rfl).trans rfl⟩, Or.inr n3, Or.inr n4, Or.inr n5, Or.inl ⟨rfl, n6⟩, Or.inl ⟨rfl, n7⟩, Or.inl ⟨rfl, n8⟩, trivial⟩ ?_
      exact s_Port_bestCatch_8 hcs x1 x2 a3 a4 a5 q0 _ _ _ h hq
    cases h
  · intro v I2 _ h
    split at h
    · cases h; exact q0 _ _ hq
    · cases h
theorem w_Port_bestCatch {d : Nat} (hcs : AllS L X d (cs_Port_bestCatch F_A_within)) : Snd L X (d + 1) 175 3 (W_Port_bestCatch F_Port_bestCatch) := by
  refine ⟨_, z_Port_bestCatch, rfl, fun β args k I r hty hlen h => ?_⟩
  unfold W_Port_bestCatch at h
  split at h
  · rename_i t0 a0 u1 a1 u2 a2
    obtain ⟨hb0, h⟩ := mB_ok h
    have e0 := Nat.eq_of_beq_eq_true hb0
    have g0 : okB 104 a0 = true := e0 ▸ hty.1
    have e20 := one_104 g0
    subst e20
    obtain ⟨v, I1, h1, h2⟩ := bn_some h
    refine ⟨gf_obj (c := 4) (by decide) g0, rfl, some (0, .int v), I1, trivial, ?_, h2⟩
    exact s_Port_bestCatch_0 hcs a1 a2  (Q := fun w I => w = v ∧ I = I1) (fun w I q => by obtain ⟨rfl, rfl⟩ := q; rfl) I v I1 h1 ⟨rfl, rfl⟩
  · cases h
theorem S_Port_bestCatch {d : Nat} (hd : 2 ≤ d) : Snd L X d 175 3 (W_Port_bestCatch F_Port_bestCatch) := by
  obtain ⟨e, rfl⟩ : ∃ e, d = e + 1 := ⟨d - 1, by omega⟩
  exact w_Port_bestCatch ⟨S_A_within (by omega), trivial⟩
set_option maxRecDepth 100000 in
theorem z_A_net : pT[174]? = some (q_A_net, 3, 3, 1, 11) := rfl
def W_A_net (F : Int32 → Int32 → M Int32) : CSem := fun _ args k => match args with
  | [(t0, .ref a0), (_, .int a1), (_, .int a2)] => mB (Nat.beq t0 111) <| bn (F a1 a2) fun v => k (some (0, .int v))
  | _ => fl
def cs_A_net (f_A_within : Int32 → Int32 → Int32 → M Int32) (f_Port_bestCatch : Int32 → Int32 → M Int32) : List (Nat × Nat × CSem) := [(18, 3, W_A_within f_A_within), (175, 3, W_Port_bestCatch f_Port_bestCatch)]
def F_A_net (x1 : Int32) (x2 : Int32) : M (Int32) :=
  bn (F_A_within x1 (1 : Int32) (10 : Int32)) fun v1 =>
  (if v1 = 0 then
    rt (-1 : Int32)
  else
    bn (F_A_within x2 (0 : Int32) (1 : Int32)) fun v2 =>
    (if v2 = 0 then
      rt (-1 : Int32)
    else
      (if x2 = (1 : Int32) then
        bn (F_Port_bestCatch x1 (1 : Int32)) fun v4 =>
        rt v4
      else
        bn (F_Port_bestCatch x1 (0 : Int32)) fun v3 =>
        rt v3)))
set_option maxRecDepth 4000 in
theorem e_s_A_net_0 (f_A_within : Int32 → Int32 → Int32 → M Int32) (f_Port_bestCatch : Int32 → Int32 → M Int32) (x1 : Int32) (x2 : Int32) : wf (β := Int32) L X q_A_net 1 (cs_A_net f_A_within f_Port_bestCatch) [] [] (fun _ _ _ => fl) (fun v => match v with | some (_, .int x) => rt x | _ => fl) 28 0 [(111, .ref 0), (0, .int x1), (0, .int x2)] [] = (bn (f_A_within x1 (1 : Int32) (10 : Int32)) fun v1 =>
  (if v1 = 0 then
    rt (-1 : Int32)
  else
    bn (f_A_within x2 (0 : Int32) (1 : Int32)) fun v2 =>
    (if v2 = 0 then
      rt (-1 : Int32)
    else
      (if x2 = (1 : Int32) then
        bn (f_Port_bestCatch x1 (1 : Int32)) fun v4 =>
        rt v4
      else
        bn (f_Port_bestCatch x1 (0 : Int32)) fun v3 =>
        rt v3)))) := rfl
theorem s_A_net_0 {d : Nat} (hcs : AllS L X d (cs_A_net F_A_within F_Port_bestCatch)) (x1 : Int32) (x2 : Int32) {o : Option Value × PH} {Q : (Int32) → MI → Prop} (q0 : ∀ v I, Q v I → o = (some (.int v), HH I)) (I : MI) (r : Int32) (I1 : MI) (h : F_A_net x1 x2 I = some (r, I1)) (hq : Q r I1) : At L X (d + 1) 174 0 [(111, .ref 0), (0, .int x1), (0, .int x2)] [] I o := by
  refine wf_ok z_A_net hcs ?_ ?_ _ _ _ _ _ ⟨rfl, trivial, trivial, trivial⟩ trivial (unm_refl _ _) ((congrFun (e_s_A_net_0 (L := L) (X := X) F_A_within F_Port_bestCatch x1 x2) I).trans h)
  · intro pc ls st I2 h1 h2 h3 h
    cases h
  · intro v I2 _ h
    split at h
    · cases h; exact q0 _ _ hq
    · cases h
theorem w_A_net {d : Nat} (hcs : AllS L X d (cs_A_net F_A_within F_Port_bestCatch)) : Snd L X (d + 1) 174 3 (W_A_net F_A_net) := by
  refine ⟨_, z_A_net, rfl, fun β args k I r hty hlen h => ?_⟩
  unfold W_A_net at h
  split at h
  · rename_i t0 a0 u1 a1 u2 a2
    obtain ⟨hb0, h⟩ := mB_ok h
    have e0 := Nat.eq_of_beq_eq_true hb0
    have g0 : okB 111 a0 = true := e0 ▸ hty.1
    have e20 := one_111 g0
    subst e20
    obtain ⟨v, I1, h1, h2⟩ := bn_some h
    refine ⟨gf_obj (c := 11) (by decide) g0, rfl, some (0, .int v), I1, trivial, ?_, h2⟩
    exact s_A_net_0 hcs a1 a2  (Q := fun w I => w = v ∧ I = I1) (fun w I q => by obtain ⟨rfl, rfl⟩ := q; rfl) I v I1 h1 ⟨rfl, rfl⟩
  · cases h
theorem S_A_net {d : Nat} (hd : 3 ≤ d) : Snd L X d 174 3 (W_A_net F_A_net) := by
  obtain ⟨e, rfl⟩ : ∃ e, d = e + 1 := ⟨d - 1, by omega⟩
  exact w_A_net ⟨S_A_within (by omega), S_Port_bestCatch (by omega), trivial⟩
set_option maxRecDepth 100000 in
theorem z_Riddles_mirrored : pT[161]? = some (q_Riddles_mirrored, 1, 3, 2, 6) := rfl
def W_Riddles_mirrored (F : M Int32) : CSem := fun _ args k => match args with
  | [(t0, .ref a0)] => mB (Nat.beq t0 106) <| bn (F) fun v => k (some (0, .int v))
  | _ => fl
def cs_Riddles_mirrored (f_Table_at : Nat → Int32 → Int32 → M Int32) : List (Nat × Nat × CSem) := [(36, 3, W_Table_at f_Table_at)]
def B_Riddles_mirrored_29 (x1 : Int32) (y : Int32) : M ((Int32) ⊕ (Int32)) :=
  (if y < x1 then
    bn (F_Table_at 35 y (0 : Int32)) fun v1 =>
    bn (F_Table_at 37 ((x1 - (1 : Int32)) - y) (0 : Int32)) fun v2 =>
    (if v1 = v2 then
      rt (.inl (y + (1 : Int32)))
    else
      bn (gdZ (0 : Int32)) fun _ => rt (.inr (0 : Int32)))
  else
    bn (gdZ (1 : Int32)) fun _ => rt (.inr (1 : Int32)))
set_option maxRecDepth 4000 in
theorem e_b_Riddles_mirrored_29 (f_Table_at : Nat → Int32 → Int32 → M Int32) (x1 : Int32) (y : Int32) : wf (β := (Int32) ⊕ (Int32)) L X q_Riddles_mirrored 2 (cs_Riddles_mirrored f_Table_at) [2] [29] (fun pc ls st => mC (Nat.beq pc 29) (mN st <| gI ls 2 fun a2 => rt (.inl a2)) (fl)) (fun v => match v with | some (_, .int x) => rt (.inr x) | _ => fl) 46 29 [(106, .ref 195), (0, .int x1), (0, .int y)] [] = ((if y < x1 then
    bn (f_Table_at 35 y (0 : Int32)) fun v1 =>
    bn (f_Table_at 37 ((x1 - (1 : Int32)) - y) (0 : Int32)) fun v2 =>
    (if v1 = v2 then
      rt (.inl (y + (1 : Int32)))
    else
      bn (gdZ (0 : Int32)) fun _ => rt (.inr (0 : Int32)))
  else
    bn (gdZ (1 : Int32)) fun _ => rt (.inr (1 : Int32)))) := rfl
theorem b_Riddles_mirrored_29 {d : Nat} (hcs : AllS L X d (cs_Riddles_mirrored F_Table_at)) (x1 : Int32) {o : Option Value × PH} {Q : ((Int32) ⊕ (Int32)) → MI → Prop} (qb : ∀ y I, Q (.inl y) I → At L X (d + 1) 161 29 [(106, .ref 195), (0, .int x1), (0, .int y)] [] I o) (qr : ∀ v I, Q (.inr v) I → o = (some (.int v), HH I)) (y : Int32) (I : MI) (r : (Int32) ⊕ (Int32)) (I1 : MI) (h : B_Riddles_mirrored_29 x1 y I = some (r, I1)) (hq : Q r I1) : At L X (d + 1) 161 29 [(106, .ref 195), (0, .int x1), (0, .int y)] [] I o := by
  refine wf_ok z_Riddles_mirrored hcs ?_ ?_ _ _ _ _ _ ⟨rfl, trivial, trivial, trivial⟩ trivial (unm_refl _ _) ((congrFun (e_b_Riddles_mirrored_29 (L := L) (X := X) F_Table_at x1 y) I).trans h)
  · intro pc ls st I2 h1 h2 h3 h
    rcases mC_ok h with ⟨hb, h⟩ | ⟨_, h⟩
    · have e := Nat.eq_of_beq_eq_true hb
      subst e
      obtain ⟨hst, h⟩ := mN_ok h
      subst hst
      obtain ⟨a2, n2, h⟩ := gI_ok h
      refine at_leaf (ls2 := [(106, .ref 195), (0, .int x1), (0, .int a2)]) h3.1 ⟨Or.inr ⟨_, (h3.2 0 rfl).trans rfl⟩, Or.inr ⟨_, (h3.2 1 rfl).trans rfl⟩, Or.inr n2, trivial⟩ ?_
      cases h; exact qb _ _ hq
    cases h
  · intro v I2 _ h
    split at h
    · cases h; exact qr _ _ hq
    · cases h
def K_Riddles_mirrored_29 (x1 : Int32) (x2 : Int32) : M (Int32) :=
  lp (B_Riddles_mirrored_29 x1) FU x2
theorem s_Riddles_mirrored_29 {d : Nat} (hcs : AllS L X d (cs_Riddles_mirrored F_Table_at)) (x1 : Int32) (x2 : Int32) {o : Option Value × PH} {Q : (Int32) → MI → Prop} (q0 : ∀ v I, Q v I → o = (some (.int v), HH I)) (I : MI) (r : Int32) (I1 : MI) (h : K_Riddles_mirrored_29 x1 x2 I = some (r, I1)) (hq : Q r I1) : At L X (d + 1) 161 29 [(106, .ref 195), (0, .int x1), (0, .int x2)] [] I o := by
  unfold K_Riddles_mirrored_29 at h
  have w0 := fun w => at_lp (body := B_Riddles_mirrored_29 x1) (P := (fun (y : Int32) I => At L X (d + 1) 161 29 [(106, .ref 195), (0, .int x1), (0, .int y)] [] I o)) (Q := (fun (e : Int32) I => Q e I)) w FU x2 I r I1 h hq
  refine w0 ?_
  intro y I r I1 h hq
  exact b_Riddles_mirrored_29 hcs x1 (Q := SQ (fun (y : Int32) I => At L X (d + 1) 161 29 [(106, .ref 195), (0, .int x1), (0, .int y)] [] I o) (fun (e : Int32) I => Q e I)) (fun _ _ w => w) q0 y I r I1 h hq
def F_Riddles_mirrored : M (Int32) :=
  bn (rd 35 3) fun v1 =>
  bn (rd 37 3) fun v2 =>
  (if v1 = v2 then
    K_Riddles_mirrored_29 v1 (0 : Int32)
  else
    bn (gdZ (0 : Int32)) fun _ => rt (0 : Int32))
set_option maxRecDepth 4000 in
theorem e_s_Riddles_mirrored_0 (f_Table_at : Nat → Int32 → Int32 → M Int32) (k_29 : Int32 → Int32 → M (Int32)) : wf (β := Int32) L X q_Riddles_mirrored 2 (cs_Riddles_mirrored f_Table_at) [1, 2] [29] (fun pc ls st => mC (Nat.beq pc 29) (mN st <| gI ls 1 fun a1 => gI ls 2 fun a2 => k_29 a1 a2) (fl)) (fun v => match v with | some (_, .int x) => rt x | _ => fl) 46 0 [(106, .ref 195), (0, dV), (0, dV)] [] = (bn (rd 35 3) fun v1 =>
  bn (rd 37 3) fun v2 =>
  (if v1 = v2 then
    k_29 v1 (0 : Int32)
  else
    bn (gdZ (0 : Int32)) fun _ => rt (0 : Int32))) := rfl
theorem s_Riddles_mirrored_0 {d : Nat} (hcs : AllS L X d (cs_Riddles_mirrored F_Table_at)) {o : Option Value × PH} {Q : (Int32) → MI → Prop} (q0 : ∀ v I, Q v I → o = (some (.int v), HH I)) (I : MI) (r : Int32) (I1 : MI) (h : F_Riddles_mirrored I = some (r, I1)) (hq : Q r I1) : At L X (d + 1) 161 0 [(106, .ref 195), (0, dV), (0, dV)] [] I o := by
  refine wf_ok z_Riddles_mirrored hcs ?_ ?_ _ _ _ _ _ ⟨rfl, trivial, trivial, trivial⟩ trivial (unm_refl _ _) ((congrFun (e_s_Riddles_mirrored_0 (L := L) (X := X) F_Table_at K_Riddles_mirrored_29) I).trans h)
  · intro pc ls st I2 h1 h2 h3 h
    rcases mC_ok h with ⟨hb, h⟩ | ⟨_, h⟩
    · have e := Nat.eq_of_beq_eq_true hb
      subst e
      obtain ⟨hst, h⟩ := mN_ok h
      subst hst
      obtain ⟨a1, n1, h⟩ := gI_ok h
      obtain ⟨a2, n2, h⟩ := gI_ok h
      refine at_leaf (ls2 := [(106, .ref 195), (0, .int a1), (0, .int a2)]) h3.1 ⟨Or.inr ⟨_, (h3.2 0 rfl).trans rfl⟩, Or.inr n1, Or.inr n2, trivial⟩ ?_
      exact s_Riddles_mirrored_29 hcs a1 a2 q0 _ _ _ h hq
    cases h
  · intro v I2 _ h
    split at h
    · cases h; exact q0 _ _ hq
    · cases h
theorem w_Riddles_mirrored {d : Nat} (hcs : AllS L X d (cs_Riddles_mirrored F_Table_at)) : Snd L X (d + 1) 161 1 (W_Riddles_mirrored F_Riddles_mirrored) := by
  refine ⟨_, z_Riddles_mirrored, rfl, fun β args k I r hty hlen h => ?_⟩
  unfold W_Riddles_mirrored at h
  split at h
  · rename_i t0 a0
    obtain ⟨hb0, h⟩ := mB_ok h
    have e0 := Nat.eq_of_beq_eq_true hb0
    have g0 : okB 106 a0 = true := e0 ▸ hty.1
    have e20 := one_106 g0
    subst e20
    obtain ⟨v, I1, h1, h2⟩ := bn_some h
    refine ⟨gf_obj (c := 6) (by decide) g0, rfl, some (0, .int v), I1, trivial, ?_, h2⟩
    exact s_Riddles_mirrored_0 hcs   (Q := fun w I => w = v ∧ I = I1) (fun w I q => by obtain ⟨rfl, rfl⟩ := q; rfl) I v I1 h1 ⟨rfl, rfl⟩
  · cases h
theorem S_Riddles_mirrored {d : Nat} (hd : 2 ≤ d) : Snd L X d 161 1 (W_Riddles_mirrored F_Riddles_mirrored) := by
  obtain ⟨e, rfl⟩ : ∃ e, d = e + 1 := ⟨d - 1, by omega⟩
  exact w_Riddles_mirrored ⟨S_Table_at (by omega), trivial⟩
set_option maxRecDepth 100000 in
theorem z_Riddles_shiftAt : pT[160]? = some (q_Riddles_shiftAt, 2, 2, 1, 6) := rfl
def W_Riddles_shiftAt (F : Int32 → M Int32) : CSem := fun _ args k => match args with
  | [(t0, .ref a0), (_, .int a1)] => mB (Nat.beq t0 106) <| bn (F a1) fun v => k (some (0, .int v))
  | _ => fl
def cs_Riddles_shiftAt (f_Table_at : Nat → Int32 → Int32 → M Int32) : List (Nat × Nat × CSem) := [(36, 3, W_Table_at f_Table_at)]
def F_Riddles_shiftAt (x1 : Int32) : M (Int32) :=
  bn (F_Table_at 35 x1 (0 : Int32)) fun v1 =>
  bn (F_Table_at 37 x1 (0 : Int32)) fun v2 =>
  dvI (26 : Int32) <|
  rt (fmJ (v1 - v2) (26 : Int32))
set_option maxRecDepth 4000 in
theorem e_s_Riddles_shiftAt_0 (f_Table_at : Nat → Int32 → Int32 → M Int32) (x1 : Int32) : wf (β := Int32) L X q_Riddles_shiftAt 1 (cs_Riddles_shiftAt f_Table_at) [] [] (fun _ _ _ => fl) (fun v => match v with | some (_, .int x) => rt x | _ => fl) 21 0 [(106, .ref 195), (0, .int x1)] [] = (bn (f_Table_at 35 x1 (0 : Int32)) fun v1 =>
  bn (f_Table_at 37 x1 (0 : Int32)) fun v2 =>
  dvI (26 : Int32) <|
  rt (fmJ (v1 - v2) (26 : Int32))) := rfl
theorem s_Riddles_shiftAt_0 {d : Nat} (hcs : AllS L X d (cs_Riddles_shiftAt F_Table_at)) (x1 : Int32) {o : Option Value × PH} {Q : (Int32) → MI → Prop} (q0 : ∀ v I, Q v I → o = (some (.int v), HH I)) (I : MI) (r : Int32) (I1 : MI) (h : F_Riddles_shiftAt x1 I = some (r, I1)) (hq : Q r I1) : At L X (d + 1) 160 0 [(106, .ref 195), (0, .int x1)] [] I o := by
  refine wf_ok z_Riddles_shiftAt hcs ?_ ?_ _ _ _ _ _ ⟨rfl, trivial, trivial⟩ trivial (unm_refl _ _) ((congrFun (e_s_Riddles_shiftAt_0 (L := L) (X := X) F_Table_at x1) I).trans h)
  · intro pc ls st I2 h1 h2 h3 h
    cases h
  · intro v I2 _ h
    split at h
    · cases h; exact q0 _ _ hq
    · cases h
theorem w_Riddles_shiftAt {d : Nat} (hcs : AllS L X d (cs_Riddles_shiftAt F_Table_at)) : Snd L X (d + 1) 160 2 (W_Riddles_shiftAt F_Riddles_shiftAt) := by
  refine ⟨_, z_Riddles_shiftAt, rfl, fun β args k I r hty hlen h => ?_⟩
  unfold W_Riddles_shiftAt at h
  split at h
  · rename_i t0 a0 u1 a1
    obtain ⟨hb0, h⟩ := mB_ok h
    have e0 := Nat.eq_of_beq_eq_true hb0
    have g0 : okB 106 a0 = true := e0 ▸ hty.1
    have e20 := one_106 g0
    subst e20
    obtain ⟨v, I1, h1, h2⟩ := bn_some h
    refine ⟨gf_obj (c := 6) (by decide) g0, rfl, some (0, .int v), I1, trivial, ?_, h2⟩
    exact s_Riddles_shiftAt_0 hcs a1  (Q := fun w I => w = v ∧ I = I1) (fun w I q => by obtain ⟨rfl, rfl⟩ := q; rfl) I v I1 h1 ⟨rfl, rfl⟩
  · cases h
theorem S_Riddles_shiftAt {d : Nat} (hd : 2 ≤ d) : Snd L X d 160 2 (W_Riddles_shiftAt F_Riddles_shiftAt) := by
  obtain ⟨e, rfl⟩ : ∃ e, d = e + 1 := ⟨d - 1, by omega⟩
  exact w_Riddles_shiftAt ⟨S_Table_at (by omega), trivial⟩
set_option maxRecDepth 100000 in
theorem z_Riddles_shift : pT[159]? = some (q_Riddles_shift, 1, 4, 1, 6) := rfl
def W_Riddles_shift (F : M Int32) : CSem := fun _ args k => match args with
  | [(t0, .ref a0)] => mB (Nat.beq t0 106) <| bn (F) fun v => k (some (0, .int v))
  | _ => fl
def cs_Riddles_shift (f_Riddles_shiftAt : Int32 → M Int32) : List (Nat × Nat × CSem) := [(160, 2, W_Riddles_shiftAt f_Riddles_shiftAt)]
def B_Riddles_shift_43 (x1 : Int32) (x2 : Int32) (y : Int32) : M ((Int32) ⊕ (Int32)) :=
  (if y < x1 then
    bn (F_Riddles_shiftAt y) fun v1 =>
    (if v1 = x2 then
      rt (.inl (y + (1 : Int32)))
    else
      rt (.inr (-1 : Int32)))
  else
    rt (.inr x2))
set_option maxRecDepth 4000 in
theorem e_b_Riddles_shift_43 (f_Riddles_shiftAt : Int32 → M Int32) (x1 : Int32) (x2 : Int32) (y : Int32) : wf (β := (Int32) ⊕ (Int32)) L X q_Riddles_shift 1 (cs_Riddles_shift f_Riddles_shiftAt) [3] [43] (fun pc ls st => mC (Nat.beq pc 43) (mN st <| gI ls 3 fun a3 => rt (.inl a3)) (fl)) (fun v => match v with | some (_, .int x) => rt (.inr x) | _ => fl) 42 43 [(106, .ref 195), (0, .int x1), (0, .int x2), (0, .int y)] [] = ((if y < x1 then
    bn (f_Riddles_shiftAt y) fun v1 =>
    (if v1 = x2 then
      rt (.inl (y + (1 : Int32)))
    else
      rt (.inr (-1 : Int32)))
  else
    rt (.inr x2))) := rfl
theorem b_Riddles_shift_43 {d : Nat} (hcs : AllS L X d (cs_Riddles_shift F_Riddles_shiftAt)) (x1 : Int32) (x2 : Int32) {o : Option Value × PH} {Q : ((Int32) ⊕ (Int32)) → MI → Prop} (qb : ∀ y I, Q (.inl y) I → At L X (d + 1) 159 43 [(106, .ref 195), (0, .int x1), (0, .int x2), (0, .int y)] [] I o) (qr : ∀ v I, Q (.inr v) I → o = (some (.int v), HH I)) (y : Int32) (I : MI) (r : (Int32) ⊕ (Int32)) (I1 : MI) (h : B_Riddles_shift_43 x1 x2 y I = some (r, I1)) (hq : Q r I1) : At L X (d + 1) 159 43 [(106, .ref 195), (0, .int x1), (0, .int x2), (0, .int y)] [] I o := by
  refine wf_ok z_Riddles_shift hcs ?_ ?_ _ _ _ _ _ ⟨rfl, trivial, trivial, trivial, trivial⟩ trivial (unm_refl _ _) ((congrFun (e_b_Riddles_shift_43 (L := L) (X := X) F_Riddles_shiftAt x1 x2 y) I).trans h)
  · intro pc ls st I2 h1 h2 h3 h
    rcases mC_ok h with ⟨hb, h⟩ | ⟨_, h⟩
    · have e := Nat.eq_of_beq_eq_true hb
      subst e
      obtain ⟨hst, h⟩ := mN_ok h
      subst hst
      obtain ⟨a3, n3, h⟩ := gI_ok h
      refine at_leaf (ls2 := [(106, .ref 195), (0, .int x1), (0, .int x2), (0, .int a3)]) h3.1 ⟨Or.inr ⟨_, (h3.2 0 rfl).trans rfl⟩, Or.inr ⟨_, (h3.2 1 rfl).trans rfl⟩, Or.inr ⟨_, (h3.2 2 rfl).trans rfl⟩, Or.inr n3, trivial⟩ ?_
      cases h; exact qb _ _ hq
    cases h
  · intro v I2 _ h
    split at h
    · cases h; exact qr _ _ hq
    · cases h
def K_Riddles_shift_43 (x1 : Int32) (x2 : Int32) (x3 : Int32) : M (Int32) :=
  lp (B_Riddles_shift_43 x1 x2) FU x3
theorem s_Riddles_shift_43 {d : Nat} (hcs : AllS L X d (cs_Riddles_shift F_Riddles_shiftAt)) (x1 : Int32) (x2 : Int32) (x3 : Int32) {o : Option Value × PH} {Q : (Int32) → MI → Prop} (q0 : ∀ v I, Q v I → o = (some (.int v), HH I)) (I : MI) (r : Int32) (I1 : MI) (h : K_Riddles_shift_43 x1 x2 x3 I = some (r, I1)) (hq : Q r I1) : At L X (d + 1) 159 43 [(106, .ref 195), (0, .int x1), (0, .int x2), (0, .int x3)] [] I o := by
  unfold K_Riddles_shift_43 at h
  have w0 := fun w => at_lp (body := B_Riddles_shift_43 x1 x2) (P := (fun (y : Int32) I => At L X (d + 1) 159 43 [(106, .ref 195), (0, .int x1), (0, .int x2), (0, .int y)] [] I o)) (Q := (fun (e : Int32) I => Q e I)) w FU x3 I r I1 h hq
  refine w0 ?_
  intro y I r I1 h hq
  exact b_Riddles_shift_43 hcs x1 x2 (Q := SQ (fun (y : Int32) I => At L X (d + 1) 159 43 [(106, .ref 195), (0, .int x1), (0, .int x2), (0, .int y)] [] I o) (fun (e : Int32) I => Q e I)) (fun _ _ w => w) q0 y I r I1 h hq
def F_Riddles_shift : M (Int32) :=
  bn (rd 35 3) fun v1 =>
  bn (rd 37 3) fun v2 =>
  (if v1 = v2 then
    (if v1 = 0 then
      K_Riddles_shift_43 v1 (0 : Int32) (1 : Int32)
    else
      bn (F_Riddles_shiftAt (0 : Int32)) fun v3 =>
      K_Riddles_shift_43 v1 v3 (1 : Int32))
  else
    rt (-1 : Int32))
set_option maxRecDepth 4000 in
theorem e_s_Riddles_shift_0 (f_Riddles_shiftAt : Int32 → M Int32) (k_43 : Int32 → Int32 → Int32 → M (Int32)) : wf (β := Int32) L X q_Riddles_shift 1 (cs_Riddles_shift f_Riddles_shiftAt) [1, 2, 3] [43] (fun pc ls st => mC (Nat.beq pc 43) (mN st <| gI ls 1 fun a1 => gI ls 2 fun a2 => gI ls 3 fun a3 => k_43 a1 a2 a3) (fl)) (fun v => match v with | some (_, .int x) => rt x | _ => fl) 42 0 [(106, .ref 195), (0, dV), (0, dV), (0, dV)] [] = (bn (rd 35 3) fun v1 =>
  bn (rd 37 3) fun v2 =>
  (if v1 = v2 then
    (if v1 = 0 then
      k_43 v1 (0 : Int32) (1 : Int32)
    else
      bn (f_Riddles_shiftAt (0 : Int32)) fun v3 =>
      k_43 v1 v3 (1 : Int32))
  else
    rt (-1 : Int32))) := rfl
theorem s_Riddles_shift_0 {d : Nat} (hcs : AllS L X d (cs_Riddles_shift F_Riddles_shiftAt)) {o : Option Value × PH} {Q : (Int32) → MI → Prop} (q0 : ∀ v I, Q v I → o = (some (.int v), HH I)) (I : MI) (r : Int32) (I1 : MI) (h : F_Riddles_shift I = some (r, I1)) (hq : Q r I1) : At L X (d + 1) 159 0 [(106, .ref 195), (0, dV), (0, dV), (0, dV)] [] I o := by
  refine wf_ok z_Riddles_shift hcs ?_ ?_ _ _ _ _ _ ⟨rfl, trivial, trivial, trivial, trivial⟩ trivial (unm_refl _ _) ((congrFun (e_s_Riddles_shift_0 (L := L) (X := X) F_Riddles_shiftAt K_Riddles_shift_43) I).trans h)
  · intro pc ls st I2 h1 h2 h3 h
    rcases mC_ok h with ⟨hb, h⟩ | ⟨_, h⟩
    · have e := Nat.eq_of_beq_eq_true hb
      subst e
      obtain ⟨hst, h⟩ := mN_ok h
      subst hst
      obtain ⟨a1, n1, h⟩ := gI_ok h
      obtain ⟨a2, n2, h⟩ := gI_ok h
      obtain ⟨a3, n3, h⟩ := gI_ok h
      refine at_leaf (ls2 := [(106, .ref 195), (0, .int a1), (0, .int a2), (0, .int a3)]) h3.1 ⟨Or.inr ⟨_, (h3.2 0 rfl).trans rfl⟩, Or.inr n1, Or.inr n2, Or.inr n3, trivial⟩ ?_
      exact s_Riddles_shift_43 hcs a1 a2 a3 q0 _ _ _ h hq
    cases h
  · intro v I2 _ h
    split at h
    · cases h; exact q0 _ _ hq
    · cases h
theorem w_Riddles_shift {d : Nat} (hcs : AllS L X d (cs_Riddles_shift F_Riddles_shiftAt)) : Snd L X (d + 1) 159 1 (W_Riddles_shift F_Riddles_shift) := by
  refine ⟨_, z_Riddles_shift, rfl, fun β args k I r hty hlen h => ?_⟩
  unfold W_Riddles_shift at h
  split at h
  · rename_i t0 a0
    obtain ⟨hb0, h⟩ := mB_ok h
    have e0 := Nat.eq_of_beq_eq_true hb0
    have g0 : okB 106 a0 = true := e0 ▸ hty.1
    have e20 := one_106 g0
    subst e20
    obtain ⟨v, I1, h1, h2⟩ := bn_some h
    refine ⟨gf_obj (c := 6) (by decide) g0, rfl, some (0, .int v), I1, trivial, ?_, h2⟩
    exact s_Riddles_shift_0 hcs   (Q := fun w I => w = v ∧ I = I1) (fun w I q => by obtain ⟨rfl, rfl⟩ := q; rfl) I v I1 h1 ⟨rfl, rfl⟩
  · cases h
theorem S_Riddles_shift {d : Nat} (hd : 3 ≤ d) : Snd L X d 159 1 (W_Riddles_shift F_Riddles_shift) := by
  obtain ⟨e, rfl⟩ : ∃ e, d = e + 1 := ⟨d - 1, by omega⟩
  exact w_Riddles_shift ⟨S_Riddles_shiftAt (by omega), trivial⟩
set_option maxRecDepth 100000 in
theorem z_A_notes : pT[158]? = some (q_A_notes, 2, 2, 1, 11) := rfl
def W_A_notes (F : Int32 → M Int32) : CSem := fun _ args k => match args with
  | [(t0, .ref a0), (_, .int a1)] => mB (Nat.beq t0 111) <| bn (F a1) fun v => k (some (0, .int v))
  | _ => fl
def cs_A_notes (f_Riddles_mirrored : M Int32) (f_Riddles_shift : M Int32) : List (Nat × Nat × CSem) := [(161, 1, W_Riddles_mirrored f_Riddles_mirrored), (159, 1, W_Riddles_shift f_Riddles_shift)]
def F_A_notes (x1 : Int32) : M (Int32) :=
  (if x1 = (0 : Int32) then
    bn (F_Riddles_shift) fun v1 =>
    rt v1
  else (if x1 = (1 : Int32) then
    bn (F_Riddles_mirrored) fun v2 =>
    (if v2 = 0 then
      rt (0 : Int32)
    else
      rt (1 : Int32))
  else rt (-1 : Int32)))
set_option maxRecDepth 4000 in
theorem e_s_A_notes_0 (f_Riddles_mirrored : M Int32) (f_Riddles_shift : M Int32) (x1 : Int32) : wf (β := Int32) L X q_A_notes 1 (cs_A_notes f_Riddles_mirrored f_Riddles_shift) [] [] (fun _ _ _ => fl) (fun v => match v with | some (_, .int x) => rt x | _ => fl) 21 0 [(111, .ref 0), (0, .int x1)] [] = ((if x1 = (0 : Int32) then
    bn (f_Riddles_shift) fun v1 =>
    rt v1
  else (if x1 = (1 : Int32) then
    bn (f_Riddles_mirrored) fun v2 =>
    (if v2 = 0 then
      rt (0 : Int32)
    else
      rt (1 : Int32))
  else rt (-1 : Int32)))) := rfl
theorem s_A_notes_0 {d : Nat} (hcs : AllS L X d (cs_A_notes F_Riddles_mirrored F_Riddles_shift)) (x1 : Int32) {o : Option Value × PH} {Q : (Int32) → MI → Prop} (q0 : ∀ v I, Q v I → o = (some (.int v), HH I)) (I : MI) (r : Int32) (I1 : MI) (h : F_A_notes x1 I = some (r, I1)) (hq : Q r I1) : At L X (d + 1) 158 0 [(111, .ref 0), (0, .int x1)] [] I o := by
  refine wf_ok z_A_notes hcs ?_ ?_ _ _ _ _ _ ⟨rfl, trivial, trivial⟩ trivial (unm_refl _ _) ((congrFun (e_s_A_notes_0 (L := L) (X := X) F_Riddles_mirrored F_Riddles_shift x1) I).trans h)
  · intro pc ls st I2 h1 h2 h3 h
    cases h
  · intro v I2 _ h
    split at h
    · cases h; exact q0 _ _ hq
    · cases h
theorem w_A_notes {d : Nat} (hcs : AllS L X d (cs_A_notes F_Riddles_mirrored F_Riddles_shift)) : Snd L X (d + 1) 158 2 (W_A_notes F_A_notes) := by
  refine ⟨_, z_A_notes, rfl, fun β args k I r hty hlen h => ?_⟩
  unfold W_A_notes at h
  split at h
  · rename_i t0 a0 u1 a1
    obtain ⟨hb0, h⟩ := mB_ok h
    have e0 := Nat.eq_of_beq_eq_true hb0
    have g0 : okB 111 a0 = true := e0 ▸ hty.1
    have e20 := one_111 g0
    subst e20
    obtain ⟨v, I1, h1, h2⟩ := bn_some h
    refine ⟨gf_obj (c := 11) (by decide) g0, rfl, some (0, .int v), I1, trivial, ?_, h2⟩
    exact s_A_notes_0 hcs a1  (Q := fun w I => w = v ∧ I = I1) (fun w I q => by obtain ⟨rfl, rfl⟩ := q; rfl) I v I1 h1 ⟨rfl, rfl⟩
  · cases h
theorem S_A_notes {d : Nat} (hd : 4 ≤ d) : Snd L X d 158 2 (W_A_notes F_A_notes) := by
  obtain ⟨e, rfl⟩ : ∃ e, d = e + 1 := ⟨d - 1, by omega⟩
  exact w_A_notes ⟨S_Riddles_mirrored (by omega), S_Riddles_shift (by omega), trivial⟩
set_option maxRecDepth 100000 in
theorem z_A_of : pT[111]? = some (q_A_of, 3, 4, 1, 11) := rfl
def W_A_of (F : Int32 → Int32 → M Int32) : CSem := fun _ args k => match args with
  | [(t0, .ref a0), (_, .int a1), (_, .int a2)] => mB (Nat.beq t0 111) <| bn (F a1 a2) fun v => k (some (0, .int v))
  | _ => fl
def cs_A_of (f_Law_tells : Nat → Nat → Int32 → Int32 → M Int32) (f_World_isAlias : Nat → Int32 → M Int32) : List (Nat × Nat × CSem) := [(47, 4, W_Law_tells f_Law_tells), (26, 2, W_World_isAlias f_World_isAlias)]
def F_A_of (x1 : Int32) (x2 : Int32) : M (Int32) :=
  bn (F_World_isAlias 2 x1) fun v1 =>
  (if v1 = 0 then
    rt (-1 : Int32)
  else
    (if x2 = (0 : Int32) then
      bn (ld 18 6 x1) fun v2 =>
      rt v2
    else (if x2 = (1 : Int32) then
      bn (ld 18 7 x1) fun v3 =>
      rt v3
    else (if x2 = (2 : Int32) then
      bn (ld 18 8 x1) fun v4 =>
      rt v4
    else (if x2 = (3 : Int32) then
      bn (ld 18 9 x1) fun v5 =>
      rt v5
    else (if x2 = (4 : Int32) then
      bn (ld 18 10 x1) fun v6 =>
      rt v6
    else (if x2 = (5 : Int32) then
      bn (ld 18 11 x1) fun v7 =>
      rt v7
    else (if x2 = (6 : Int32) then
      bn (ld 18 12 x1) fun v8 =>
      rt v8
    else (if x2 = (7 : Int32) then
      bn (F_Law_tells 16 2 x1 (0 : Int32)) fun v9 =>
      rt v9
    else (if x2 = (8 : Int32) then
      bn (F_Law_tells 16 2 x1 (1 : Int32)) fun v10 =>
      rt v10
    else (if x2 = (9 : Int32) then
      bn (F_Law_tells 16 2 x1 (2 : Int32)) fun v11 =>
      rt v11
    else rt (-1 : Int32))))))))))))
set_option maxRecDepth 4000 in
theorem e_s_A_of_0 (f_Law_tells : Nat → Nat → Int32 → Int32 → M Int32) (f_World_isAlias : Nat → Int32 → M Int32) (x1 : Int32) (x2 : Int32) : wf (β := Int32) L X q_A_of 1 (cs_A_of f_Law_tells f_World_isAlias) [3] [] (fun _ _ _ => fl) (fun v => match v with | some (_, .int x) => rt x | _ => fl) 81 0 [(111, .ref 0), (0, .int x1), (0, .int x2), (0, dV)] [] = (bn (f_World_isAlias 2 x1) fun v1 =>
  (if v1 = 0 then
    rt (-1 : Int32)
  else
    (if x2 = (0 : Int32) then
      bn (ld 18 6 x1) fun v2 =>
      rt v2
    else (if x2 = (1 : Int32) then
      bn (ld 18 7 x1) fun v3 =>
      rt v3
    else (if x2 = (2 : Int32) then
      bn (ld 18 8 x1) fun v4 =>
      rt v4
    else (if x2 = (3 : Int32) then
      bn (ld 18 9 x1) fun v5 =>
      rt v5
    else (if x2 = (4 : Int32) then
      bn (ld 18 10 x1) fun v6 =>
      rt v6
    else (if x2 = (5 : Int32) then
      bn (ld 18 11 x1) fun v7 =>
      rt v7
    else (if x2 = (6 : Int32) then
      bn (ld 18 12 x1) fun v8 =>
      rt v8
    else (if x2 = (7 : Int32) then
      bn (f_Law_tells 16 2 x1 (0 : Int32)) fun v9 =>
      rt v9
    else (if x2 = (8 : Int32) then
      bn (f_Law_tells 16 2 x1 (1 : Int32)) fun v10 =>
      rt v10
    else (if x2 = (9 : Int32) then
      bn (f_Law_tells 16 2 x1 (2 : Int32)) fun v11 =>
      rt v11
    else rt (-1 : Int32))))))))))))) := rfl
theorem s_A_of_0 {d : Nat} (hcs : AllS L X d (cs_A_of F_Law_tells F_World_isAlias)) (x1 : Int32) (x2 : Int32) {o : Option Value × PH} {Q : (Int32) → MI → Prop} (q0 : ∀ v I, Q v I → o = (some (.int v), HH I)) (I : MI) (r : Int32) (I1 : MI) (h : F_A_of x1 x2 I = some (r, I1)) (hq : Q r I1) : At L X (d + 1) 111 0 [(111, .ref 0), (0, .int x1), (0, .int x2), (0, dV)] [] I o := by
  refine wf_ok z_A_of hcs ?_ ?_ _ _ _ _ _ ⟨rfl, trivial, trivial, trivial, trivial⟩ trivial (unm_refl _ _) ((congrFun (e_s_A_of_0 (L := L) (X := X) F_Law_tells F_World_isAlias x1 x2) I).trans h)
  · intro pc ls st I2 h1 h2 h3 h
    cases h
  · intro v I2 _ h
    split at h
    · cases h; exact q0 _ _ hq
    · cases h
theorem w_A_of {d : Nat} (hcs : AllS L X d (cs_A_of F_Law_tells F_World_isAlias)) : Snd L X (d + 1) 111 3 (W_A_of F_A_of) := by
  refine ⟨_, z_A_of, rfl, fun β args k I r hty hlen h => ?_⟩
  unfold W_A_of at h
  split at h
  · rename_i t0 a0 u1 a1 u2 a2
    obtain ⟨hb0, h⟩ := mB_ok h
    have e0 := Nat.eq_of_beq_eq_true hb0
    have g0 : okB 111 a0 = true := e0 ▸ hty.1
    have e20 := one_111 g0
    subst e20
    obtain ⟨v, I1, h1, h2⟩ := bn_some h
    refine ⟨gf_obj (c := 11) (by decide) g0, rfl, some (0, .int v), I1, trivial, ?_, h2⟩
    exact s_A_of_0 hcs a1 a2  (Q := fun w I => w = v ∧ I = I1) (fun w I q => by obtain ⟨rfl, rfl⟩ := q; rfl) I v I1 h1 ⟨rfl, rfl⟩
  · cases h
theorem S_A_of {d : Nat} (hd : 6 ≤ d) : Snd L X d 111 3 (W_A_of F_A_of) := by
  obtain ⟨e, rfl⟩ : ∃ e, d = e + 1 := ⟨d - 1, by omega⟩
  exact w_A_of ⟨S_Law_tells (by omega), S_World_isAlias (by omega), trivial⟩
set_option maxRecDepth 100000 in
theorem z_A_pair : pT[132]? = some (q_A_pair, 4, 4, 1, 11) := rfl
def W_A_pair (F : Int32 → Int32 → Int32 → M Int32) : CSem := fun _ args k => match args with
  | [(t0, .ref a0), (_, .int a1), (_, .int a2), (_, .int a3)] => mB (Nat.beq t0 111) <| bn (F a1 a2 a3) fun v => k (some (0, .int v))
  | _ => fl
def cs_A_pair (f_A_within : Int32 → Int32 → Int32 → M Int32) (f_Table_put : Nat → Int32 → Int32 → Int32 → M Int32) (f_Table_wipe : Nat → M Int32) : List (Nat × Nat × CSem) := [(18, 3, W_A_within f_A_within), (106, 4, W_Table_put f_Table_put), (77, 1, W_Table_wipe f_Table_wipe)]
def F_A_pair (x1 : Int32) (x2 : Int32) (x3 : Int32) : M (Int32) :=
  (if x1 = (-1 : Int32) then
    bn (F_Table_wipe 29) fun v5 =>
    rt v5
  else
    bn (F_A_within x1 (0 : Int32) (9 : Int32)) fun v1 =>
    (if v1 = 0 then
      rt (-1 : Int32)
    else
      bn (F_A_within x2 (0 : Int32) (9 : Int32)) fun v2 =>
      (if v2 = 0 then
        rt (-1 : Int32)
      else
        (if x1 = x2 then
          rt (-1 : Int32)
        else
          (if x3 = 0 then
            bn (F_Table_put 29 x1 x2 (0 : Int32)) fun v3 =>
            rt v3
          else
            bn (F_Table_put 29 x1 x2 (1 : Int32)) fun v4 =>
            rt v4)))))
set_option maxRecDepth 4000 in
theorem e_s_A_pair_0 (f_A_within : Int32 → Int32 → Int32 → M Int32) (f_Table_put : Nat → Int32 → Int32 → Int32 → M Int32) (f_Table_wipe : Nat → M Int32) (x1 : Int32) (x2 : Int32) (x3 : Int32) : wf (β := Int32) L X q_A_pair 1 (cs_A_pair f_A_within f_Table_put f_Table_wipe) [] [] (fun _ _ _ => fl) (fun v => match v with | some (_, .int x) => rt x | _ => fl) 40 0 [(111, .ref 0), (0, .int x1), (0, .int x2), (0, .int x3)] [] = ((if x1 = (-1 : Int32) then
    bn (f_Table_wipe 29) fun v5 =>
    rt v5
  else
    bn (f_A_within x1 (0 : Int32) (9 : Int32)) fun v1 =>
    (if v1 = 0 then
      rt (-1 : Int32)
    else
      bn (f_A_within x2 (0 : Int32) (9 : Int32)) fun v2 =>
      (if v2 = 0 then
        rt (-1 : Int32)
      else
        (if x1 = x2 then
          rt (-1 : Int32)
        else
          (if x3 = 0 then
            bn (f_Table_put 29 x1 x2 (0 : Int32)) fun v3 =>
            rt v3
          else
            bn (f_Table_put 29 x1 x2 (1 : Int32)) fun v4 =>
            rt v4)))))) := rfl
theorem s_A_pair_0 {d : Nat} (hcs : AllS L X d (cs_A_pair F_A_within F_Table_put F_Table_wipe)) (x1 : Int32) (x2 : Int32) (x3 : Int32) {o : Option Value × PH} {Q : (Int32) → MI → Prop} (q0 : ∀ v I, Q v I → o = (some (.int v), HH I)) (I : MI) (r : Int32) (I1 : MI) (h : F_A_pair x1 x2 x3 I = some (r, I1)) (hq : Q r I1) : At L X (d + 1) 132 0 [(111, .ref 0), (0, .int x1), (0, .int x2), (0, .int x3)] [] I o := by
  refine wf_ok z_A_pair hcs ?_ ?_ _ _ _ _ _ ⟨rfl, trivial, trivial, trivial, trivial⟩ trivial (unm_refl _ _) ((congrFun (e_s_A_pair_0 (L := L) (X := X) F_A_within F_Table_put F_Table_wipe x1 x2 x3) I).trans h)
  · intro pc ls st I2 h1 h2 h3 h
    cases h
  · intro v I2 _ h
    split at h
    · cases h; exact q0 _ _ hq
    · cases h
theorem w_A_pair {d : Nat} (hcs : AllS L X d (cs_A_pair F_A_within F_Table_put F_Table_wipe)) : Snd L X (d + 1) 132 4 (W_A_pair F_A_pair) := by
  refine ⟨_, z_A_pair, rfl, fun β args k I r hty hlen h => ?_⟩
  unfold W_A_pair at h
  split at h
  · rename_i t0 a0 u1 a1 u2 a2 u3 a3
    obtain ⟨hb0, h⟩ := mB_ok h
    have e0 := Nat.eq_of_beq_eq_true hb0
    have g0 : okB 111 a0 = true := e0 ▸ hty.1
    have e20 := one_111 g0
    subst e20
    obtain ⟨v, I1, h1, h2⟩ := bn_some h
    refine ⟨gf_obj (c := 11) (by decide) g0, rfl, some (0, .int v), I1, trivial, ?_, h2⟩
    exact s_A_pair_0 hcs a1 a2 a3  (Q := fun w I => w = v ∧ I = I1) (fun w I q => by obtain ⟨rfl, rfl⟩ := q; rfl) I v I1 h1 ⟨rfl, rfl⟩
  · cases h
theorem S_A_pair {d : Nat} (hd : 4 ≤ d) : Snd L X d 132 4 (W_A_pair F_A_pair) := by
  obtain ⟨e, rfl⟩ : ∃ e, d = e + 1 := ⟨d - 1, by omega⟩
  exact w_A_pair ⟨S_A_within (by omega), S_Table_put (by omega), S_Table_wipe (by omega), trivial⟩
set_option maxRecDepth 100000 in
theorem z_World_addPerson : pT[17]? = some (q_World_addPerson, 3, 3, 1, 10) := rfl
def W_World_addPerson (F : Nat → Int32 → Int32 → M Int32) : CSem := fun _ args k => match args with
  | [(t0, .ref a0), (_, .int a1), (_, .int a2)] => mB (Nat.beq t0 110) <| bn (F a0 a1 a2) fun v => k (some (0, .int v))
  | _ => fl
def cs_World_addPerson (f_A_within : Int32 → Int32 → Int32 → M Int32) : List (Nat × Nat × CSem) := [(18, 3, W_A_within f_A_within)]
def F_World_addPerson (r0 : Nat) (x1 : Int32) (x2 : Int32) : M (Int32) :=
  bn (rd r0 7) fun v1 =>
  (if v1 < (6 : Int32) then
    bn (F_A_within x1 (0 : Int32) (9 : Int32)) fun v2 =>
    (if v2 = 0 then
      rt (-1 : Int32)
    else
      bn (F_A_within x2 (0 : Int32) (9999 : Int32)) fun v3 =>
      (if v3 = 0 then
        rt (-1 : Int32)
      else
        bn (rd r0 7) fun v4 =>
        bn (sr 6 (r0 + 2) v4 x1) fun _ =>
        bn (rd r0 7) fun v5 =>
        bn (sr 6 (r0 + 3) v5 x2) fun _ =>
        bn (rd r0 7) fun v6 =>
        bn (wr r0 7 (v6 + (1 : Int32))) fun _ =>
        bn (rd r0 7) fun v7 =>
        rt (v7 - (1 : Int32))))
  else
    rt (-1 : Int32))
set_option maxRecDepth 4000 in
theorem e_s_World_addPerson_0 (f_A_within : Int32 → Int32 → Int32 → M Int32) (r0 : Nat) (x1 : Int32) (x2 : Int32) : wf (β := Int32) L X q_World_addPerson 1 (cs_World_addPerson f_A_within) [] [] (fun _ _ _ => fl) (fun v => match v with | some (_, .int x) => rt x | _ => fl) 44 0 [(110, .ref r0), (0, .int x1), (0, .int x2)] [] = (bn (rd r0 7) fun v1 =>
  (if v1 < (6 : Int32) then
    bn (f_A_within x1 (0 : Int32) (9 : Int32)) fun v2 =>
    (if v2 = 0 then
      rt (-1 : Int32)
    else
      bn (f_A_within x2 (0 : Int32) (9999 : Int32)) fun v3 =>
      (if v3 = 0 then
        rt (-1 : Int32)
      else
        bn (rd r0 7) fun v4 =>
        bn (sr 6 (r0 + 2) v4 x1) fun _ =>
        bn (rd r0 7) fun v5 =>
        bn (sr 6 (r0 + 3) v5 x2) fun _ =>
        bn (rd r0 7) fun v6 =>
        bn (wr r0 7 (v6 + (1 : Int32))) fun _ =>
        bn (rd r0 7) fun v7 =>
        rt (v7 - (1 : Int32))))
  else
    rt (-1 : Int32))) := rfl
theorem s_World_addPerson_0 {d : Nat} (hcs : AllS L X d (cs_World_addPerson F_A_within)) (r0 : Nat) (x1 : Int32) (x2 : Int32) (t0 : okB 110 r0 = true) {o : Option Value × PH} {Q : (Int32) → MI → Prop} (q0 : ∀ v I, Q v I → o = (some (.int v), HH I)) (I : MI) (r : Int32) (I1 : MI) (h : F_World_addPerson r0 x1 x2 I = some (r, I1)) (hq : Q r I1) : At L X (d + 1) 17 0 [(110, .ref r0), (0, .int x1), (0, .int x2)] [] I o := by
  refine wf_ok z_World_addPerson hcs ?_ ?_ _ _ _ _ _ ⟨t0, trivial, trivial, trivial⟩ trivial (unm_refl _ _) ((congrFun (e_s_World_addPerson_0 (L := L) (X := X) F_A_within r0 x1 x2) I).trans h)
  · intro pc ls st I2 h1 h2 h3 h
    cases h
  · intro v I2 _ h
    split at h
    · cases h; exact q0 _ _ hq
    · cases h
theorem w_World_addPerson {d : Nat} (hcs : AllS L X d (cs_World_addPerson F_A_within)) : Snd L X (d + 1) 17 3 (W_World_addPerson F_World_addPerson) := by
  refine ⟨_, z_World_addPerson, rfl, fun β args k I r hty hlen h => ?_⟩
  unfold W_World_addPerson at h
  split at h
  · rename_i t0 a0 u1 a1 u2 a2
    obtain ⟨hb0, h⟩ := mB_ok h
    have e0 := Nat.eq_of_beq_eq_true hb0
    have g0 : okB 110 a0 = true := e0 ▸ hty.1
    obtain ⟨v, I1, h1, h2⟩ := bn_some h
    refine ⟨gf_obj (c := 10) (by decide) g0, rfl, some (0, .int v), I1, trivial, ?_, h2⟩
    exact s_World_addPerson_0 hcs a0 a1 a2 g0 (Q := fun w I => w = v ∧ I = I1) (fun w I q => by obtain ⟨rfl, rfl⟩ := q; rfl) I v I1 h1 ⟨rfl, rfl⟩
  · cases h
theorem S_World_addPerson {d : Nat} (hd : 2 ≤ d) : Snd L X d 17 3 (W_World_addPerson F_World_addPerson) := by
  obtain ⟨e, rfl⟩ : ∃ e, d = e + 1 := ⟨d - 1, by omega⟩
  exact w_World_addPerson ⟨S_A_within (by omega), trivial⟩
set_option maxRecDepth 100000 in
theorem z_A_person : pT[16]? = some (q_A_person, 3, 4, 1, 11) := rfl
def W_A_person (F : Int32 → Int32 → M Int32) : CSem := fun _ args k => match args with
  | [(t0, .ref a0), (_, .int a1), (_, .int a2)] => mB (Nat.beq t0 111) <| bn (F a1 a2) fun v => k (some (0, .int v))
  | _ => fl
def cs_A_person (f_A_forget : M Unit) (f_World_addPerson : Nat → Int32 → Int32 → M Int32) : List (Nat × Nat × CSem) := [(15, 1, W_A_forget f_A_forget), (17, 3, W_World_addPerson f_World_addPerson)]
def F_A_person (x1 : Int32) (x2 : Int32) : M (Int32) :=
  bn (F_World_addPerson 2 x1 x2) fun v1 =>
  (if v1 = (-1 : Int32) then
    rt v1
  else
    bn (F_A_forget) fun _ =>
    rt v1)
set_option maxRecDepth 4000 in
theorem e_s_A_person_0 (f_A_forget : M Unit) (f_World_addPerson : Nat → Int32 → Int32 → M Int32) (x1 : Int32) (x2 : Int32) : wf (β := Int32) L X q_A_person 1 (cs_A_person f_A_forget f_World_addPerson) [3] [] (fun _ _ _ => fl) (fun v => match v with | some (_, .int x) => rt x | _ => fl) 19 0 [(111, .ref 0), (0, .int x1), (0, .int x2), (0, dV)] [] = (bn (f_World_addPerson 2 x1 x2) fun v1 =>
  (if v1 = (-1 : Int32) then
    rt v1
  else
    bn (f_A_forget) fun _ =>
    rt v1)) := rfl
theorem s_A_person_0 {d : Nat} (hcs : AllS L X d (cs_A_person F_A_forget F_World_addPerson)) (x1 : Int32) (x2 : Int32) {o : Option Value × PH} {Q : (Int32) → MI → Prop} (q0 : ∀ v I, Q v I → o = (some (.int v), HH I)) (I : MI) (r : Int32) (I1 : MI) (h : F_A_person x1 x2 I = some (r, I1)) (hq : Q r I1) : At L X (d + 1) 16 0 [(111, .ref 0), (0, .int x1), (0, .int x2), (0, dV)] [] I o := by
  refine wf_ok z_A_person hcs ?_ ?_ _ _ _ _ _ ⟨rfl, trivial, trivial, trivial, trivial⟩ trivial (unm_refl _ _) ((congrFun (e_s_A_person_0 (L := L) (X := X) F_A_forget F_World_addPerson x1 x2) I).trans h)
  · intro pc ls st I2 h1 h2 h3 h
    cases h
  · intro v I2 _ h
    split at h
    · cases h; exact q0 _ _ hq
    · cases h
theorem w_A_person {d : Nat} (hcs : AllS L X d (cs_A_person F_A_forget F_World_addPerson)) : Snd L X (d + 1) 16 3 (W_A_person F_A_person) := by
  refine ⟨_, z_A_person, rfl, fun β args k I r hty hlen h => ?_⟩
  unfold W_A_person at h
  split at h
  · rename_i t0 a0 u1 a1 u2 a2
    obtain ⟨hb0, h⟩ := mB_ok h
    have e0 := Nat.eq_of_beq_eq_true hb0
    have g0 : okB 111 a0 = true := e0 ▸ hty.1
    have e20 := one_111 g0
    subst e20
    obtain ⟨v, I1, h1, h2⟩ := bn_some h
    refine ⟨gf_obj (c := 11) (by decide) g0, rfl, some (0, .int v), I1, trivial, ?_, h2⟩
    exact s_A_person_0 hcs a1 a2  (Q := fun w I => w = v ∧ I = I1) (fun w I q => by obtain ⟨rfl, rfl⟩ := q; rfl) I v I1 h1 ⟨rfl, rfl⟩
  · cases h
theorem S_A_person {d : Nat} (hd : 3 ≤ d) : Snd L X d 16 3 (W_A_person F_A_person) := by
  obtain ⟨e, rfl⟩ : ∃ e, d = e + 1 := ⟨d - 1, by omega⟩
  exact w_A_person ⟨S_A_forget (by omega), S_World_addPerson (by omega), trivial⟩
set_option maxRecDepth 100000 in
theorem z_Port_minutesOnMap : pT[125]? = some (q_Port_minutesOnMap, 3, 5, 1, 4) := rfl
def W_Port_minutesOnMap (F : Int32 → Int32 → M Int32) : CSem := fun _ args k => match args with
  | [(t0, .ref a0), (_, .int a1), (_, .int a2)] => mB (Nat.beq t0 104) <| bn (F a1 a2) fun v => k (some (0, .int v))
  | _ => fl
def cs_Port_minutesOnMap (f_Port_besideAny : Int32 → M Int32) : List (Nat × Nat × CSem) := [(126, 2, W_Port_besideAny f_Port_besideAny)]
def B_Port_minutesOnMap_7 (x2 : Int32) (y : Int32 × Int32) : M ((Int32 × Int32) ⊕ (Int32)) :=
  (if y.2 < (10 : Int32) then
    (if ((y.1 >>> (x2 &&& 31)) &&& (1 : Int32)) = 0 then
      bn (F_Port_besideAny y.1) fun v1 =>
      rt (.inl ((y.1 ||| v1), (y.2 + (1 : Int32))))
    else
      rt (.inr (y.2 * (5 : Int32))))
  else
    rt (.inr (-1 : Int32)))
set_option maxRecDepth 4000 in
theorem e_b_Port_minutesOnMap_7 (f_Port_besideAny : Int32 → M Int32) (x2 : Int32) (y : Int32 × Int32) : wf (β := (Int32 × Int32) ⊕ (Int32)) L X q_Port_minutesOnMap 1 (cs_Port_minutesOnMap f_Port_besideAny) [3, 4] [7] (fun pc ls st => mC (Nat.beq pc 7) (mN st <| gD ls 1 <| gI ls 3 fun a3 => gI ls 4 fun a4 => rt (.inl (a3, a4))) (fl)) (fun v => match v with | some (_, .int x) => rt (.inr x) | _ => fl) 34 7 [(104, .ref 190), (0, dV), (0, .int x2), (0, .int y.1), (0, .int y.2)] [] = ((if y.2 < (10 : Int32) then
    (if ((y.1 >>> (x2 &&& 31)) &&& (1 : Int32)) = 0 then
      bn (f_Port_besideAny y.1) fun v1 =>
      rt (.inl ((y.1 ||| v1), (y.2 + (1 : Int32))))
    else
      rt (.inr (y.2 * (5 : Int32))))
  else
    rt (.inr (-1 : Int32)))) := rfl
theorem b_Port_minutesOnMap_7 {d : Nat} (hcs : AllS L X d (cs_Port_minutesOnMap F_Port_besideAny)) (x2 : Int32) {o : Option Value × PH} {Q : ((Int32 × Int32) ⊕ (Int32)) → MI → Prop} (qb : ∀ y I, Q (.inl y) I → At L X (d + 1) 125 7 [(104, .ref 190), (0, dV), (0, .int x2), (0, .int y.1), (0, .int y.2)] [] I o) (qr : ∀ v I, Q (.inr v) I → o = (some (.int v), HH I)) (y : Int32 × Int32) (I : MI) (r : (Int32 × Int32) ⊕ (Int32)) (I1 : MI) (h : B_Port_minutesOnMap_7 x2 y I = some (r, I1)) (hq : Q r I1) : At L X (d + 1) 125 7 [(104, .ref 190), (0, dV), (0, .int x2), (0, .int y.1), (0, .int y.2)] [] I o := by
  refine wf_ok z_Port_minutesOnMap hcs ?_ ?_ _ _ _ _ _ ⟨rfl, trivial, trivial, trivial, trivial, trivial⟩ trivial (unm_refl _ _) ((congrFun (e_b_Port_minutesOnMap_7 (L := L) (X := X) F_Port_besideAny x2 y) I).trans h)
  · intro pc ls st I2 h1 h2 h3 h
    rcases mC_ok h with ⟨hb, h⟩ | ⟨_, h⟩
    · have e := Nat.eq_of_beq_eq_true hb
      subst e
      obtain ⟨hst, h⟩ := mN_ok h
      subst hst
      obtain ⟨n1, h⟩ := gD_ok h
      obtain ⟨a3, n3, h⟩ := gI_ok h
      obtain ⟨a4, n4, h⟩ := gI_ok h
      refine at_leaf (ls2 := [(104, .ref 190), (0, dV), (0, .int x2), (0, .int a3), (0, .int a4)]) h3.1 ⟨Or.inr ⟨_, (h3.2 0 rfl).trans rfl⟩, Or.inl ⟨rfl, n1⟩, Or.inr ⟨_, (h3.2 2 rfl).trans rfl⟩, Or.inr n3, Or.inr n4, trivial⟩ ?_
      cases h; exact qb _ _ hq
    cases h
  · intro v I2 _ h
    split at h
    · cases h; exact qr _ _ hq
    · cases h
def K_Port_minutesOnMap_7 (x2 : Int32) (x3 : Int32) (x4 : Int32) : M (Int32) :=
  lp (B_Port_minutesOnMap_7 x2) FU (x3, x4)
theorem s_Port_minutesOnMap_7 {d : Nat} (hcs : AllS L X d (cs_Port_minutesOnMap F_Port_besideAny)) (x2 : Int32) (x3 : Int32) (x4 : Int32) {o : Option Value × PH} {Q : (Int32) → MI → Prop} (q0 : ∀ v I, Q v I → o = (some (.int v), HH I)) (I : MI) (r : Int32) (I1 : MI) (h : K_Port_minutesOnMap_7 x2 x3 x4 I = some (r, I1)) (hq : Q r I1) : At L X (d + 1) 125 7 [(104, .ref 190), (0, dV), (0, .int x2), (0, .int x3), (0, .int x4)] [] I o := by
  unfold K_Port_minutesOnMap_7 at h
  have w0 := fun w => at_lp (body := B_Port_minutesOnMap_7 x2) (P := (fun (y : Int32 × Int32) I => At L X (d + 1) 125 7 [(104, .ref 190), (0, dV), (0, .int x2), (0, .int y.1), (0, .int y.2)] [] I o)) (Q := (fun (e : Int32) I => Q e I)) w FU (x3, x4) I r I1 h hq
  refine w0 ?_
  intro y I r I1 h hq
  exact b_Port_minutesOnMap_7 hcs x2 (Q := SQ (fun (y : Int32 × Int32) I => At L X (d + 1) 125 7 [(104, .ref 190), (0, dV), (0, .int x2), (0, .int y.1), (0, .int y.2)] [] I o) (fun (e : Int32) I => Q e I)) (fun _ _ w => w) q0 y I r I1 h hq
def F_Port_minutesOnMap (x1 : Int32) (x2 : Int32) : M (Int32) :=
  K_Port_minutesOnMap_7 x2 ((1 : Int32) <<< (x1 &&& 31)) (0 : Int32)
set_option maxRecDepth 4000 in
theorem e_s_Port_minutesOnMap_0 (f_Port_besideAny : Int32 → M Int32) (k_7 : Int32 → Int32 → Int32 → M (Int32)) (x1 : Int32) (x2 : Int32) : wf (β := Int32) L X q_Port_minutesOnMap 1 (cs_Port_minutesOnMap f_Port_besideAny) [3, 4] [7] (fun pc ls st => mC (Nat.beq pc 7) (mN st <| gD ls 1 <| gI ls 3 fun a3 => gI ls 4 fun a4 => k_7 x2 a3 a4) (fl)) (fun v => match v with | some (_, .int x) => rt x | _ => fl) 34 0 [(104, .ref 190), (0, .int x1), (0, .int x2), (0, dV), (0, dV)] [] = (k_7 x2 ((1 : Int32) <<< (x1 &&& 31)) (0 : Int32)) := rfl
theorem s_Port_minutesOnMap_0 {d : Nat} (hcs : AllS L X d (cs_Port_minutesOnMap F_Port_besideAny)) (x1 : Int32) (x2 : Int32) {o : Option Value × PH} {Q : (Int32) → MI → Prop} (q0 : ∀ v I, Q v I → o = (some (.int v), HH I)) (I : MI) (r : Int32) (I1 : MI) (h : F_Port_minutesOnMap x1 x2 I = some (r, I1)) (hq : Q r I1) : At L X (d + 1) 125 0 [(104, .ref 190), (0, .int x1), (0, .int x2), (0, dV), (0, dV)] [] I o := by
  refine wf_ok z_Port_minutesOnMap hcs ?_ ?_ _ _ _ _ _ ⟨rfl, trivial, trivial, trivial, trivial, trivial⟩ trivial (unm_refl _ _) ((congrFun (e_s_Port_minutesOnMap_0 (L := L) (X := X) F_Port_besideAny K_Port_minutesOnMap_7 x1 x2) I).trans h)
  · intro pc ls st I2 h1 h2 h3 h
    rcases mC_ok h with ⟨hb, h⟩ | ⟨_, h⟩
    · have e := Nat.eq_of_beq_eq_true hb
      subst e
      obtain ⟨hst, h⟩ := mN_ok h
      subst hst
      obtain ⟨n1, h⟩ := gD_ok h
      obtain ⟨a3, n3, h⟩ := gI_ok h
      obtain ⟨a4, n4, h⟩ := gI_ok h
      refine at_leaf (ls2 := [(104, .ref 190), (0, dV), (0, .int x2), (0, .int a3), (0, .int a4)]) h3.1 ⟨Or.inr ⟨_, (h3.2 0 rfl).trans rfl⟩, Or.inl ⟨rfl, n1⟩, Or.inr ⟨_, (h3.2 2 rfl).trans rfl⟩, Or.inr n3, Or.inr n4, trivial⟩ ?_
      exact s_Port_minutesOnMap_7 hcs x2 a3 a4 q0 _ _ _ h hq
    cases h
  · intro v I2 _ h
    split at h
    · cases h; exact q0 _ _ hq
    · cases h
theorem w_Port_minutesOnMap {d : Nat} (hcs : AllS L X d (cs_Port_minutesOnMap F_Port_besideAny)) : Snd L X (d + 1) 125 3 (W_Port_minutesOnMap F_Port_minutesOnMap) := by
  refine ⟨_, z_Port_minutesOnMap, rfl, fun β args k I r hty hlen h => ?_⟩
  unfold W_Port_minutesOnMap at h
  split at h
  · rename_i t0 a0 u1 a1 u2 a2
    obtain ⟨hb0, h⟩ := mB_ok h
    have e0 := Nat.eq_of_beq_eq_true hb0
    have g0 : okB 104 a0 = true := e0 ▸ hty.1
    have e20 := one_104 g0
    subst e20
    obtain ⟨v, I1, h1, h2⟩ := bn_some h
    refine ⟨gf_obj (c := 4) (by decide) g0, rfl, some (0, .int v), I1, trivial, ?_, h2⟩
    exact s_Port_minutesOnMap_0 hcs a1 a2  (Q := fun w I => w = v ∧ I = I1) (fun w I q => by obtain ⟨rfl, rfl⟩ := q; rfl) I v I1 h1 ⟨rfl, rfl⟩
  · cases h
theorem S_Port_minutesOnMap {d : Nat} (hd : 2 ≤ d) : Snd L X d 125 3 (W_Port_minutesOnMap F_Port_minutesOnMap) := by
  obtain ⟨e, rfl⟩ : ∃ e, d = e + 1 := ⟨d - 1, by omega⟩
  exact w_Port_minutesOnMap ⟨S_Port_besideAny (by omega), trivial⟩
set_option maxRecDepth 100000 in
theorem z_Port_canFollow : pT[124]? = some (q_Port_canFollow, 3, 6, 2, 4) := rfl
def W_Port_canFollow (F : Int32 → Int32 → M Int32) : CSem := fun _ args k => match args with
  | [(t0, .ref a0), (_, .int a1), (_, .int a2)] => mB (Nat.beq t0 104) <| bn (F a1 a2) fun v => k (some (0, .int v))
  | _ => fl
def cs_Port_canFollow (f_Port_minutesOnMap : Int32 → Int32 → M Int32) (f_Table_at : Nat → Int32 → Int32 → M Int32) : List (Nat × Nat × CSem) := [(125, 3, W_Port_minutesOnMap f_Port_minutesOnMap), (36, 3, W_Table_at f_Table_at)]
def K_Port_canFollow_40 (x1 : Int32) (x2 : Int32) (x4 : Int32) : M (Int32) :=
  bn (F_Table_at 27 x1 (1 : Int32)) fun v1 =>
  bn (F_Table_at 27 x2 (1 : Int32)) fun v2 =>
  bn (F_Port_minutesOnMap v1 v2) fun v3 =>
  (if v3 = (-1 : Int32) then
    bn (gdZ (0 : Int32)) fun _ => rt (0 : Int32)
  else
    (if x4 < v3 then
      bn (gdZ (0 : Int32)) fun _ => rt (0 : Int32)
    else
      bn (gdZ (1 : Int32)) fun _ => rt (1 : Int32)))
set_option maxRecDepth 4000 in
theorem e_s_Port_canFollow_40 (f_Port_minutesOnMap : Int32 → Int32 → M Int32) (f_Table_at : Nat → Int32 → Int32 → M Int32) (x1 : Int32) (x2 : Int32) (x4 : Int32) : wf (β := Int32) L X q_Port_canFollow 2 (cs_Port_canFollow f_Port_minutesOnMap f_Table_at) [5] [40] (fun _ _ _ => fl) (fun v => match v with | some (_, .int x) => rt x | _ => fl) 49 40 [(104, .ref 190), (0, .int x1), (0, .int x2), (108, .ref 27), (0, .int x4), (0, dV)] [] = (bn (f_Table_at 27 x1 (1 : Int32)) fun v1 =>
  bn (f_Table_at 27 x2 (1 : Int32)) fun v2 =>
  bn (f_Port_minutesOnMap v1 v2) fun v3 =>
  (if v3 = (-1 : Int32) then
    bn (gdZ (0 : Int32)) fun _ => rt (0 : Int32)
  else
    (if x4 < v3 then
      bn (gdZ (0 : Int32)) fun _ => rt (0 : Int32)
    else
      bn (gdZ (1 : Int32)) fun _ => rt (1 : Int32)))) := rfl
theorem s_Port_canFollow_40 {d : Nat} (hcs : AllS L X d (cs_Port_canFollow F_Port_minutesOnMap F_Table_at)) (x1 : Int32) (x2 : Int32) (x4 : Int32) {o : Option Value × PH} {Q : (Int32) → MI → Prop} (q0 : ∀ v I, Q v I → o = (some (.int v), HH I)) (I : MI) (r : Int32) (I1 : MI) (h : K_Port_canFollow_40 x1 x2 x4 I = some (r, I1)) (hq : Q r I1) : At L X (d + 1) 124 40 [(104, .ref 190), (0, .int x1), (0, .int x2), (108, .ref 27), (0, .int x4), (0, dV)] [] I o := by
  refine wf_ok z_Port_canFollow hcs ?_ ?_ _ _ _ _ _ ⟨rfl, trivial, trivial, rfl, trivial, trivial, trivial⟩ trivial (unm_refl _ _) ((congrFun (e_s_Port_canFollow_40 (L := L) (X := X) F_Port_minutesOnMap F_Table_at x1 x2 x4) I).trans h)
  · intro pc ls st I2 h1 h2 h3 h
    cases h
  · intro v I2 _ h
    split at h
    · cases h; exact q0 _ _ hq
    · cases h
def F_Port_canFollow (x1 : Int32) (x2 : Int32) : M (Int32) :=
  bn (F_Table_at 27 x2 (0 : Int32)) fun v1 =>
  bn (F_Table_at 27 x1 (0 : Int32)) fun v2 =>
  (if (v1 - v2) < 0 then
    bn (gdZ (0 : Int32)) fun _ => rt (0 : Int32)
  else
    (if (v1 - v2) = 0 then
      (if x1 < x2 then
        K_Port_canFollow_40 x1 x2 (v1 - v2)
      else
        bn (gdZ (0 : Int32)) fun _ => rt (0 : Int32))
    else
      K_Port_canFollow_40 x1 x2 (v1 - v2)))
set_option maxRecDepth 4000 in
theorem e_s_Port_canFollow_0 (f_Port_minutesOnMap : Int32 → Int32 → M Int32) (f_Table_at : Nat → Int32 → Int32 → M Int32) (k_40 : Int32 → Int32 → Int32 → M (Int32)) (x1 : Int32) (x2 : Int32) : wf (β := Int32) L X q_Port_canFollow 2 (cs_Port_canFollow f_Port_minutesOnMap f_Table_at) [3, 4] [40] (fun pc ls st => mC (Nat.beq pc 40) (mN st <| gC ls 3 108 27 <| gI ls 4 fun a4 => gD ls 5 <| k_40 x1 x2 a4) (fl)) (fun v => match v with | some (_, .int x) => rt x | _ => fl) 49 0 [(104, .ref 190), (0, .int x1), (0, .int x2), (0, dV), (0, dV), (0, dV)] [] = (bn (f_Table_at 27 x2 (0 : Int32)) fun v1 =>
  bn (f_Table_at 27 x1 (0 : Int32)) fun v2 =>
  (if (v1 - v2) < 0 then
    bn (gdZ (0 : Int32)) fun _ => rt (0 : Int32)
  else
    (if (v1 - v2) = 0 then
      (if x1 < x2 then
        k_40 x1 x2 (v1 - v2)
      else
        bn (gdZ (0 : Int32)) fun _ => rt (0 : Int32))
    else
      k_40 x1 x2 (v1 - v2)))) := rfl
theorem s_Port_canFollow_0 {d : Nat} (hcs : AllS L X d (cs_Port_canFollow F_Port_minutesOnMap F_Table_at)) (x1 : Int32) (x2 : Int32) {o : Option Value × PH} {Q : (Int32) → MI → Prop} (q0 : ∀ v I, Q v I → o = (some (.int v), HH I)) (I : MI) (r : Int32) (I1 : MI) (h : F_Port_canFollow x1 x2 I = some (r, I1)) (hq : Q r I1) : At L X (d + 1) 124 0 [(104, .ref 190), (0, .int x1), (0, .int x2), (0, dV), (0, dV), (0, dV)] [] I o := by
  refine wf_ok z_Port_canFollow hcs ?_ ?_ _ _ _ _ _ ⟨rfl, trivial, trivial, trivial, trivial, trivial, trivial⟩ trivial (unm_refl _ _) ((congrFun (e_s_Port_canFollow_0 (L := L) (X := X) F_Port_minutesOnMap F_Table_at K_Port_canFollow_40 x1 x2) I).trans h)
  · intro pc ls st I2 h1 h2 h3 h
    rcases mC_ok h with ⟨hb, h⟩ | ⟨_, h⟩
    · have e := Nat.eq_of_beq_eq_true hb
      subst e
      obtain ⟨hst, h⟩ := mN_ok h
      subst hst
      obtain ⟨n3, h⟩ := gC_ok h
      obtain ⟨a4, n4, h⟩ := gI_ok h
      obtain ⟨n5, h⟩ := gD_ok h
      refine at_leaf (ls2 := [(104, .ref 190), (0, .int x1), (0, .int x2), (108, .ref 27), (0, .int a4), (0, dV)]) h3.1 ⟨Or.inr ⟨_, (h3.2 0 rfl).trans rfl⟩, Or.inr ⟨_, (h3.2 1 rfl).trans rfl⟩, Or.inr ⟨_, (h3.2 2 rfl).trans rfl⟩, Or.inr n3, Or.inr n4, Or.inl ⟨rfl, n5⟩, trivial⟩ ?_
      exact s_Port_canFollow_40 hcs x1 x2 a4 q0 _ _ _ h hq
    cases h
  · intro v I2 _ h
    split at h
    · cases h; exact q0 _ _ hq
    · cases h
theorem w_Port_canFollow {d : Nat} (hcs : AllS L X d (cs_Port_canFollow F_Port_minutesOnMap F_Table_at)) : Snd L X (d + 1) 124 3 (W_Port_canFollow F_Port_canFollow) := by
  refine ⟨_, z_Port_canFollow, rfl, fun β args k I r hty hlen h => ?_⟩
  unfold W_Port_canFollow at h
  split at h
  · rename_i t0 a0 u1 a1 u2 a2
    obtain ⟨hb0, h⟩ := mB_ok h
    have e0 := Nat.eq_of_beq_eq_true hb0
    have g0 : okB 104 a0 = true := e0 ▸ hty.1
    have e20 := one_104 g0
    subst e20
    obtain ⟨v, I1, h1, h2⟩ := bn_some h
    refine ⟨gf_obj (c := 4) (by decide) g0, rfl, some (0, .int v), I1, trivial, ?_, h2⟩
    exact s_Port_canFollow_0 hcs a1 a2  (Q := fun w I => w = v ∧ I = I1) (fun w I q => by obtain ⟨rfl, rfl⟩ := q; rfl) I v I1 h1 ⟨rfl, rfl⟩
  · cases h
theorem S_Port_canFollow {d : Nat} (hd : 3 ≤ d) : Snd L X d 124 3 (W_Port_canFollow F_Port_canFollow) := by
  obtain ⟨e, rfl⟩ : ∃ e, d = e + 1 := ⟨d - 1, by omega⟩
  exact w_Port_canFollow ⟨S_Port_minutesOnMap (by omega), S_Table_at (by omega), trivial⟩
set_option maxRecDepth 100000 in
theorem z_Port_fewestPersons : pT[123]? = some (q_Port_fewestPersons, 1, 5, 1, 4) := rfl
def W_Port_fewestPersons (F : M Int32) : CSem := fun _ args k => match args with
  | [(t0, .ref a0)] => mB (Nat.beq t0 104) <| bn (F) fun v => k (some (0, .int v))
  | _ => fl
def cs_Port_fewestPersons (f_Matching_allow : Nat → Int32 → Int32 → M Unit) (f_Matching_most : Nat → Int32 → Int32 → Int32 → M Int32) (f_Port_canFollow : Int32 → Int32 → M Int32) (f_Port_drawMap : M Unit) : List (Nat × Nat × CSem) := [(127, 3, W_Matching_allow f_Matching_allow), (128, 4, W_Matching_most f_Matching_most), (124, 3, W_Port_canFollow f_Port_canFollow), (115, 1, W_Port_drawMap f_Port_drawMap)]
def B_Port_fewestPersons_27 (x1 : Int32) (x2 : Int32) (y : Int32 × Int32) : M ((Int32 × Int32) ⊕ ((Int32))) :=
  (if y.2 < x1 then
    bn (F_Port_canFollow x2 y.2) fun v1 =>
    (if v1 = 0 then
      rt (.inl ((y.1 ||| (0 : Int32)), (y.2 + (1 : Int32))))
    else
      rt (.inl ((y.1 ||| ((1 : Int32) <<< (y.2 &&& 31))), (y.2 + (1 : Int32)))))
  else
    rt (.inr y.1))
set_option maxRecDepth 4000 in
theorem e_b_Port_fewestPersons_27 (f_Matching_allow : Nat → Int32 → Int32 → M Unit) (f_Matching_most : Nat → Int32 → Int32 → Int32 → M Int32) (f_Port_canFollow : Int32 → Int32 → M Int32) (f_Port_drawMap : M Unit) (x1 : Int32) (x2 : Int32) (y : Int32 × Int32) : wf (β := (Int32 × Int32) ⊕ ((Int32))) L X q_Port_fewestPersons 1 (cs_Port_fewestPersons f_Matching_allow f_Matching_most f_Port_canFollow f_Port_drawMap) [3, 4] [17, 27, 60] (fun pc ls st => mC (Nat.beq pc 27) (mN st <| gI ls 3 fun a3 => gI ls 4 fun a4 => rt (.inl (a3, a4))) (mC (Nat.beq pc 60) (mN st <| gI ls 3 fun a3 => gD ls 4 <| rt (.inr a3)) (fl))) (fun _ => fl) 55 27 [(104, .ref 190), (0, .int x1), (0, .int x2), (0, .int y.1), (0, .int y.2)] [] = ((if y.2 < x1 then
    bn (f_Port_canFollow x2 y.2) fun v1 =>
    (if v1 = 0 then
      rt (.inl ((y.1 ||| (0 : Int32)), (y.2 + (1 : Int32))))
    else
      rt (.inl ((y.1 ||| ((1 : Int32) <<< (y.2 &&& 31))), (y.2 + (1 : Int32)))))
  else
    rt (.inr y.1))) := rfl
theorem b_Port_fewestPersons_27 {d : Nat} (hcs : AllS L X d (cs_Port_fewestPersons F_Matching_allow F_Matching_most F_Port_canFollow F_Port_drawMap)) (x1 : Int32) (x2 : Int32) {o : Option Value × PH} {Q : ((Int32 × Int32) ⊕ ((Int32))) → MI → Prop} (qb : ∀ y I, Q (.inl y) I → At L X (d + 1) 123 27 [(104, .ref 190), (0, .int x1), (0, .int x2), (0, .int y.1), (0, .int y.2)] [] I o) (qe60 : ∀ y I, Q (.inr y) I → At L X (d + 1) 123 60 [(104, .ref 190), (0, .int x1), (0, .int x2), (0, .int y), (0, dV)] [] I o) (y : Int32 × Int32) (I : MI) (r : (Int32 × Int32) ⊕ ((Int32))) (I1 : MI) (h : B_Port_fewestPersons_27 x1 x2 y I = some (r, I1)) (hq : Q r I1) : At L X (d + 1) 123 27 [(104, .ref 190), (0, .int x1), (0, .int x2), (0, .int y.1), (0, .int y.2)] [] I o := by
  refine wf_ok z_Port_fewestPersons hcs ?_ ?_ _ _ _ _ _ ⟨rfl, trivial, trivial, trivial, trivial, trivial⟩ trivial (unm_refl _ _) ((congrFun (e_b_Port_fewestPersons_27 (L := L) (X := X) F_Matching_allow F_Matching_most F_Port_canFollow F_Port_drawMap x1 x2 y) I).trans h)
  · intro pc ls st I2 h1 h2 h3 h
    rcases mC_ok h with ⟨hb, h⟩ | ⟨_, h⟩
    · have e := Nat.eq_of_beq_eq_true hb
      subst e
      obtain ⟨hst, h⟩ := mN_ok h
      subst hst
      obtain ⟨a3, n3, h⟩ := gI_ok h
      obtain ⟨a4, n4, h⟩ := gI_ok h
      refine at_leaf (ls2 := [(104, .ref 190), (0, .int x1), (0, .int x2), (0, .int a3), (0, .int a4)]) h3.1 ⟨Or.inr ⟨_, (h3.2 0 rfl).trans rfl⟩, Or.inr ⟨_, (h3.2 1 rfl).trans rfl⟩, Or.inr ⟨_, (h3.2 2 rfl).trans rfl⟩, Or.inr n3, Or.inr n4, trivial⟩ ?_
      cases h; exact qb _ _ hq
    rcases mC_ok h with ⟨hb, h⟩ | ⟨_, h⟩
    · have e := Nat.eq_of_beq_eq_true hb
      subst e
      obtain ⟨hst, h⟩ := mN_ok h
      subst hst
      obtain ⟨a3, n3, h⟩ := gI_ok h
      obtain ⟨n4, h⟩ := gD_ok h
      refine at_leaf (ls2 := [(104, .ref 190), (0, .int x1), (0, .int x2), (0, .int a3), (0, dV)]) h3.1 ⟨Or.inr ⟨_, (h3.2 0 rfl).trans rfl⟩, Or.inr ⟨_, (h3.2 1 rfl).trans rfl⟩, Or.inr ⟨_, (h3.2 2 rfl).trans rfl⟩, Or.inr n3, Or.inl ⟨rfl, n4⟩, trivial⟩ ?_
      cases h; exact qe60 _ _ hq
    cases h
  · intro v I2 _ h
    cases h
def K_Port_fewestPersons_60 (x1 : Int32) (x2 : Int32) (x3 : Int32) : M ((Int32) ⊕ (Int32)) :=
  bn (F_Matching_allow 192 x2 x3) fun _ =>
  rt (.inl (x2 + (1 : Int32)))
set_option maxRecDepth 4000 in
theorem e_s_Port_fewestPersons_60 (f_Matching_allow : Nat → Int32 → Int32 → M Unit) (f_Matching_most : Nat → Int32 → Int32 → Int32 → M Int32) (f_Port_canFollow : Int32 → Int32 → M Int32) (f_Port_drawMap : M Unit) (x1 : Int32) (x2 : Int32) (x3 : Int32) : wf (β := (Int32) ⊕ (Int32)) L X q_Port_fewestPersons 1 (cs_Port_fewestPersons f_Matching_allow f_Matching_most f_Port_canFollow f_Port_drawMap) [2] [17, 27, 60] (fun pc ls st => mC (Nat.beq pc 17) (mN st <| gI ls 2 fun a2 => gD ls 3 <| gD ls 4 <| rt (.inl a2)) (fl)) (fun v => match v with | some (_, .int x) => rt (.inr x) | _ => fl) 55 60 [(104, .ref 190), (0, .int x1), (0, .int x2), (0, .int x3), (0, dV)] [] = (bn (f_Matching_allow 192 x2 x3) fun _ =>
  rt (.inl (x2 + (1 : Int32)))) := rfl
theorem s_Port_fewestPersons_60 {d : Nat} (hcs : AllS L X d (cs_Port_fewestPersons F_Matching_allow F_Matching_most F_Port_canFollow F_Port_drawMap)) (x1 : Int32) (x2 : Int32) (x3 : Int32) {o : Option Value × PH} {Q : ((Int32) ⊕ (Int32)) → MI → Prop} (qb : ∀ y I, Q (.inl y) I → At L X (d + 1) 123 17 [(104, .ref 190), (0, .int x1), (0, .int y), (0, dV), (0, dV)] [] I o) (qr : ∀ v I, Q (.inr v) I → o = (some (.int v), HH I)) (I : MI) (r : (Int32) ⊕ (Int32)) (I1 : MI) (h : K_Port_fewestPersons_60 x1 x2 x3 I = some (r, I1)) (hq : Q r I1) : At L X (d + 1) 123 60 [(104, .ref 190), (0, .int x1), (0, .int x2), (0, .int x3), (0, dV)] [] I o := by
  refine wf_ok z_Port_fewestPersons hcs ?_ ?_ _ _ _ _ _ ⟨rfl, trivial, trivial, trivial, trivial, trivial⟩ trivial (unm_refl _ _) ((congrFun (e_s_Port_fewestPersons_60 (L := L) (X := X) F_Matching_allow F_Matching_most F_Port_canFollow F_Port_drawMap x1 x2 x3) I).trans h)
  · intro pc ls st I2 h1 h2 h3 h
    rcases mC_ok h with ⟨hb, h⟩ | ⟨_, h⟩
    · have e := Nat.eq_of_beq_eq_true hb
      subst e
      obtain ⟨hst, h⟩ := mN_ok h
      subst hst
      obtain ⟨a2, n2, h⟩ := gI_ok h
      obtain ⟨n3, h⟩ := gD_ok h
      obtain ⟨n4, h⟩ := gD_ok h
      refine at_leaf (ls2 := [(104, .ref 190), (0, .int x1), (0, .int a2), (0, dV), (0, dV)]) h3.1 ⟨Or.inr ⟨_, (h3.2 0 rfl).trans rfl⟩, Or.inr ⟨_, (h3.2 1 rfl).trans rfl⟩, Or.inr n2, Or.inl ⟨rfl, n3⟩, Or.inl ⟨rfl, n4⟩, trivial⟩ ?_
      cases h; exact qb _ _ hq
    cases h
  · intro v I2 _ h
    split at h
    · cases h; exact qr _ _ hq
    · cases h
def K_Port_fewestPersons_27 (x1 : Int32) (x2 : Int32) (x3 : Int32) (x4 : Int32) : M ((Int32) ⊕ (Int32)) :=
  bn (lp (B_Port_fewestPersons_27 x1 x2) FU (x3, x4)) fun e => K_Port_fewestPersons_60 x1 x2 e
theorem s_Port_fewestPersons_27 {d : Nat} (hcs : AllS L X d (cs_Port_fewestPersons F_Matching_allow F_Matching_most F_Port_canFollow F_Port_drawMap)) (x1 : Int32) (x2 : Int32) (x3 : Int32) (x4 : Int32) {o : Option Value × PH} {Q : ((Int32) ⊕ (Int32)) → MI → Prop} (qb : ∀ y I, Q (.inl y) I → At L X (d + 1) 123 17 [(104, .ref 190), (0, .int x1), (0, .int y), (0, dV), (0, dV)] [] I o) (qr : ∀ v I, Q (.inr v) I → o = (some (.int v), HH I)) (I : MI) (r : (Int32) ⊕ (Int32)) (I1 : MI) (h : K_Port_fewestPersons_27 x1 x2 x3 x4 I = some (r, I1)) (hq : Q r I1) : At L X (d + 1) 123 27 [(104, .ref 190), (0, .int x1), (0, .int x2), (0, .int x3), (0, .int x4)] [] I o := by
  unfold K_Port_fewestPersons_27 at h
  obtain ⟨e, I2, h1, h2⟩ := bn_some h
  have w0 := fun w => at_lp (body := B_Port_fewestPersons_27 x1 x2) (P := (fun (y : Int32 × Int32) I => At L X (d + 1) 123 27 [(104, .ref 190), (0, .int x1), (0, .int x2), (0, .int y.1), (0, .int y.2)] [] I o)) (Q := (fun (e : (Int32)) I => (K_Port_fewestPersons_60 x1 x2 e) I = some (r, I1))) w FU (x3, x4) I e I2 h1 h2
  refine w0 ?_
  intro y I r2 I3 h hq2
  exact b_Port_fewestPersons_27 hcs x1 x2 (Q := SQ (fun (y : Int32 × Int32) I => At L X (d + 1) 123 27 [(104, .ref 190), (0, .int x1), (0, .int x2), (0, .int y.1), (0, .int y.2)] [] I o) (fun (e : (Int32)) I => (K_Port_fewestPersons_60 x1 x2 e) I = some (r, I1))) (fun _ _ w => w) (fun y I w => s_Port_fewestPersons_60 hcs x1 x2 y qb qr _ _ _ w hq) y I r2 I3 h hq2
def B_Port_fewestPersons_17 (x1 : Int32) (y : Int32) : M ((Int32) ⊕ (Int32)) :=
  (if y < x1 then
    K_Port_fewestPersons_27 x1 y (0 : Int32) (0 : Int32)
  else
    bn (F_Matching_most 192 (0 : Int32) x1 (0 : Int32)) fun v1 =>
    rt (.inr (x1 - v1)))
set_option maxRecDepth 4000 in
theorem e_b_Port_fewestPersons_17 (f_Matching_allow : Nat → Int32 → Int32 → M Unit) (f_Matching_most : Nat → Int32 → Int32 → Int32 → M Int32) (f_Port_canFollow : Int32 → Int32 → M Int32) (f_Port_drawMap : M Unit) (k_27 : Int32 → Int32 → Int32 → Int32 → M ((Int32) ⊕ (Int32))) (x1 : Int32) (y : Int32) : wf (β := (Int32) ⊕ (Int32)) L X q_Port_fewestPersons 1 (cs_Port_fewestPersons f_Matching_allow f_Matching_most f_Port_canFollow f_Port_drawMap) [3, 4] [17, 27, 60] (fun pc ls st => mC (Nat.beq pc 27) (mN st <| gI ls 3 fun a3 => gI ls 4 fun a4 => k_27 x1 y a3 a4) (fl)) (fun v => match v with | some (_, .int x) => rt (.inr x) | _ => fl) 55 17 [(104, .ref 190), (0, .int x1), (0, .int y), (0, dV), (0, dV)] [] = ((if y < x1 then
    k_27 x1 y (0 : Int32) (0 : Int32)
  else
    bn (f_Matching_most 192 (0 : Int32) x1 (0 : Int32)) fun v1 =>
    rt (.inr (x1 - v1)))) := rfl
theorem b_Port_fewestPersons_17 {d : Nat} (hcs : AllS L X d (cs_Port_fewestPersons F_Matching_allow F_Matching_most F_Port_canFollow F_Port_drawMap)) (x1 : Int32) {o : Option Value × PH} {Q : ((Int32) ⊕ (Int32)) → MI → Prop} (qb : ∀ y I, Q (.inl y) I → At L X (d + 1) 123 17 [(104, .ref 190), (0, .int x1), (0, .int y), (0, dV), (0, dV)] [] I o) (qr : ∀ v I, Q (.inr v) I → o = (some (.int v), HH I)) (y : Int32) (I : MI) (r : (Int32) ⊕ (Int32)) (I1 : MI) (h : B_Port_fewestPersons_17 x1 y I = some (r, I1)) (hq : Q r I1) : At L X (d + 1) 123 17 [(104, .ref 190), (0, .int x1), (0, .int y), (0, dV), (0, dV)] [] I o := by
  refine wf_ok z_Port_fewestPersons hcs ?_ ?_ _ _ _ _ _ ⟨rfl, trivial, trivial, trivial, trivial, trivial⟩ trivial (unm_refl _ _) ((congrFun (e_b_Port_fewestPersons_17 (L := L) (X := X) F_Matching_allow F_Matching_most F_Port_canFollow F_Port_drawMap K_Port_fewestPersons_27 x1 y) I).trans h)
  · intro pc ls st I2 h1 h2 h3 h
    rcases mC_ok h with ⟨hb, h⟩ | ⟨_, h⟩
    · have e := Nat.eq_of_beq_eq_true hb
      subst e
      obtain ⟨hst, h⟩ := mN_ok h
      subst hst
      obtain ⟨a3, n3, h⟩ := gI_ok h
      obtain ⟨a4, n4, h⟩ := gI_ok h
      refine at_leaf (ls2 := [(104, .ref 190), (0, .int x1), (0, .int y), (0, .int a3), (0, .int a4)]) h3.1 ⟨Or.inr ⟨_, (h3.2 0 rfl).trans rfl⟩, Or.inr ⟨_, (h3.2 1 rfl).trans rfl⟩, Or.inr ⟨_, (h3.2 2 rfl).trans rfl⟩, Or.inr n3, Or.inr n4, trivial⟩ ?_
      exact s_Port_fewestPersons_27 hcs x1 y a3 a4 qb qr _ _ _ h hq
    cases h
  · intro v I2 _ h
    split at h
    · cases h; exact qr _ _ hq
    · cases h
def K_Port_fewestPersons_17 (x1 : Int32) (x2 : Int32) : M (Int32) :=
  lp (B_Port_fewestPersons_17 x1) FU x2
theorem s_Port_fewestPersons_17 {d : Nat} (hcs : AllS L X d (cs_Port_fewestPersons F_Matching_allow F_Matching_most F_Port_canFollow F_Port_drawMap)) (x1 : Int32) (x2 : Int32) {o : Option Value × PH} {Q : (Int32) → MI → Prop} (q0 : ∀ v I, Q v I → o = (some (.int v), HH I)) (I : MI) (r : Int32) (I1 : MI) (h : K_Port_fewestPersons_17 x1 x2 I = some (r, I1)) (hq : Q r I1) : At L X (d + 1) 123 17 [(104, .ref 190), (0, .int x1), (0, .int x2), (0, dV), (0, dV)] [] I o := by
  unfold K_Port_fewestPersons_17 at h
  have w0 := fun w => at_lp (body := B_Port_fewestPersons_17 x1) (P := (fun (y : Int32) I => At L X (d + 1) 123 17 [(104, .ref 190), (0, .int x1), (0, .int y), (0, dV), (0, dV)] [] I o)) (Q := (fun (e : Int32) I => Q e I)) w FU x2 I r I1 h hq
  refine w0 ?_
  intro y I r I1 h hq
  exact b_Port_fewestPersons_17 hcs x1 (Q := SQ (fun (y : Int32) I => At L X (d + 1) 123 17 [(104, .ref 190), (0, .int x1), (0, .int y), (0, dV), (0, dV)] [] I o) (fun (e : Int32) I => Q e I)) (fun _ _ w => w) q0 y I r I1 h hq
def F_Port_fewestPersons : M (Int32) :=
  bn (F_Port_drawMap) fun _ =>
  bn (rd 27 3) fun v1 =>
  K_Port_fewestPersons_17 v1 (0 : Int32)
set_option maxRecDepth 4000 in
theorem e_s_Port_fewestPersons_0 (f_Matching_allow : Nat → Int32 → Int32 → M Unit) (f_Matching_most : Nat → Int32 → Int32 → Int32 → M Int32) (f_Port_canFollow : Int32 → Int32 → M Int32) (f_Port_drawMap : M Unit) (k_17 : Int32 → Int32 → M (Int32)) : wf (β := Int32) L X q_Port_fewestPersons 1 (cs_Port_fewestPersons f_Matching_allow f_Matching_most f_Port_canFollow f_Port_drawMap) [1, 2] [17, 27, 60] (fun pc ls st => mC (Nat.beq pc 17) (mN st <| gI ls 1 fun a1 => gI ls 2 fun a2 => gD ls 3 <| gD ls 4 <| k_17 a1 a2) (fl)) (fun v => match v with | some (_, .int x) => rt x | _ => fl) 55 0 [(104, .ref 190), (0, dV), (0, dV), (0, dV), (0, dV)] [] = (bn (f_Port_drawMap) fun _ =>
  bn (rd 27 3) fun v1 =>
  k_17 v1 (0 : Int32)) := rfl
theorem s_Port_fewestPersons_0 {d : Nat} (hcs : AllS L X d (cs_Port_fewestPersons F_Matching_allow F_Matching_most F_Port_canFollow F_Port_drawMap)) {o : Option Value × PH} {Q : (Int32) → MI → Prop} (q0 : ∀ v I, Q v I → o = (some (.int v), HH I)) (I : MI) (r : Int32) (I1 : MI) (h : F_Port_fewestPersons I = some (r, I1)) (hq : Q r I1) : At L X (d + 1) 123 0 [(104, .ref 190), (0, dV), (0, dV), (0, dV), (0, dV)] [] I o := by
  refine wf_ok z_Port_fewestPersons hcs ?_ ?_ _ _ _ _ _ ⟨rfl, trivial, trivial, trivial, trivial, trivial⟩ trivial (unm_refl _ _) ((congrFun (e_s_Port_fewestPersons_0 (L := L) (X := X) F_Matching_allow F_Matching_most F_Port_canFollow F_Port_drawMap K_Port_fewestPersons_17) I).trans h)
  · intro pc ls st I2 h1 h2 h3 h
    rcases mC_ok h with ⟨hb, h⟩ | ⟨_, h⟩
    · have e := Nat.eq_of_beq_eq_true hb
      subst e
      obtain ⟨hst, h⟩ := mN_ok h
      subst hst
      obtain ⟨a1, n1, h⟩ := gI_ok h
      obtain ⟨a2, n2, h⟩ := gI_ok h
      obtain ⟨n3, h⟩ := gD_ok h
      obtain ⟨n4, h⟩ := gD_ok h
      refine at_leaf (ls2 := [(104, .ref 190), (0, .int a1), (0, .int a2), (0, dV), (0, dV)]) h3.1 ⟨Or.inr ⟨_, (h3.2 0 rfl).trans rfl⟩, Or.inr n1, Or.inr n2, Or.inl ⟨rfl, n3⟩, Or.inl ⟨rfl, n4⟩, trivial⟩ ?_
      exact s_Port_fewestPersons_17 hcs a1 a2 q0 _ _ _ h hq
    cases h
  · intro v I2 _ h
    split at h
    · cases h; exact q0 _ _ hq
    · cases h
theorem w_Port_fewestPersons {d : Nat} (hcs : AllS L X d (cs_Port_fewestPersons F_Matching_allow F_Matching_most F_Port_canFollow F_Port_drawMap)) : Snd L X (d + 1) 123 1 (W_Port_fewestPersons F_Port_fewestPersons) := by
  refine ⟨_, z_Port_fewestPersons, rfl, fun β args k I r hty hlen h => ?_⟩
  unfold W_Port_fewestPersons at h
  split at h
  · rename_i t0 a0
    obtain ⟨hb0, h⟩ := mB_ok h
    have e0 := Nat.eq_of_beq_eq_true hb0
    have g0 : okB 104 a0 = true := e0 ▸ hty.1
    have e20 := one_104 g0
    subst e20
    obtain ⟨v, I1, h1, h2⟩ := bn_some h
    refine ⟨gf_obj (c := 4) (by decide) g0, rfl, some (0, .int v), I1, trivial, ?_, h2⟩
    exact s_Port_fewestPersons_0 hcs   (Q := fun w I => w = v ∧ I = I1) (fun w I q => by obtain ⟨rfl, rfl⟩ := q; rfl) I v I1 h1 ⟨rfl, rfl⟩
  · cases h
theorem S_Port_fewestPersons {d : Nat} (hd : 32 ≤ d) : Snd L X d 123 1 (W_Port_fewestPersons F_Port_fewestPersons) := by
  obtain ⟨e, rfl⟩ : ∃ e, d = e + 1 := ⟨d - 1, by omega⟩
  exact w_Port_fewestPersons ⟨S_Matching_allow (by omega), S_Matching_most (by omega), S_Port_canFollow (by omega), S_Port_drawMap (by omega), trivial⟩
set_option maxRecDepth 100000 in
theorem z_Port_minutes : pT[131]? = some (q_Port_minutes, 3, 3, 1, 4) := rfl
def W_Port_minutes (F : Int32 → Int32 → M Int32) : CSem := fun _ args k => match args with
  | [(t0, .ref a0), (_, .int a1), (_, .int a2)] => mB (Nat.beq t0 104) <| bn (F a1 a2) fun v => k (some (0, .int v))
  | _ => fl
def cs_Port_minutes (f_Port_drawMap : M Unit) (f_Port_minutesOnMap : Int32 → Int32 → M Int32) : List (Nat × Nat × CSem) := [(115, 1, W_Port_drawMap f_Port_drawMap), (125, 3, W_Port_minutesOnMap f_Port_minutesOnMap)]
def F_Port_minutes (x1 : Int32) (x2 : Int32) : M (Int32) :=
  bn (F_Port_drawMap) fun _ =>
  bn (F_Port_minutesOnMap x1 x2) fun v1 =>
  rt v1
set_option maxRecDepth 4000 in
theorem e_s_Port_minutes_0 (f_Port_drawMap : M Unit) (f_Port_minutesOnMap : Int32 → Int32 → M Int32) (x1 : Int32) (x2 : Int32) : wf (β := Int32) L X q_Port_minutes 1 (cs_Port_minutes f_Port_drawMap f_Port_minutesOnMap) [] [] (fun _ _ _ => fl) (fun v => match v with | some (_, .int x) => rt x | _ => fl) 12 0 [(104, .ref 190), (0, .int x1), (0, .int x2)] [] = (bn (f_Port_drawMap) fun _ =>
  bn (f_Port_minutesOnMap x1 x2) fun v1 =>
  rt v1) := rfl
theorem s_Port_minutes_0 {d : Nat} (hcs : AllS L X d (cs_Port_minutes F_Port_drawMap F_Port_minutesOnMap)) (x1 : Int32) (x2 : Int32) {o : Option Value × PH} {Q : (Int32) → MI → Prop} (q0 : ∀ v I, Q v I → o = (some (.int v), HH I)) (I : MI) (r : Int32) (I1 : MI) (h : F_Port_minutes x1 x2 I = some (r, I1)) (hq : Q r I1) : At L X (d + 1) 131 0 [(104, .ref 190), (0, .int x1), (0, .int x2)] [] I o := by
  refine wf_ok z_Port_minutes hcs ?_ ?_ _ _ _ _ _ ⟨rfl, trivial, trivial, trivial⟩ trivial (unm_refl _ _) ((congrFun (e_s_Port_minutes_0 (L := L) (X := X) F_Port_drawMap F_Port_minutesOnMap x1 x2) I).trans h)
  · intro pc ls st I2 h1 h2 h3 h
    cases h
  · intro v I2 _ h
    split at h
    · cases h; exact q0 _ _ hq
    · cases h
theorem w_Port_minutes {d : Nat} (hcs : AllS L X d (cs_Port_minutes F_Port_drawMap F_Port_minutesOnMap)) : Snd L X (d + 1) 131 3 (W_Port_minutes F_Port_minutes) := by
  refine ⟨_, z_Port_minutes, rfl, fun β args k I r hty hlen h => ?_⟩
  unfold W_Port_minutes at h
  split at h
  · rename_i t0 a0 u1 a1 u2 a2
    obtain ⟨hb0, h⟩ := mB_ok h
    have e0 := Nat.eq_of_beq_eq_true hb0
    have g0 : okB 104 a0 = true := e0 ▸ hty.1
    have e20 := one_104 g0
    subst e20
    obtain ⟨v, I1, h1, h2⟩ := bn_some h
    refine ⟨gf_obj (c := 4) (by decide) g0, rfl, some (0, .int v), I1, trivial, ?_, h2⟩
    exact s_Port_minutes_0 hcs a1 a2  (Q := fun w I => w = v ∧ I = I1) (fun w I q => by obtain ⟨rfl, rfl⟩ := q; rfl) I v I1 h1 ⟨rfl, rfl⟩
  · cases h
theorem S_Port_minutes {d : Nat} (hd : 3 ≤ d) : Snd L X d 131 3 (W_Port_minutes F_Port_minutes) := by
  obtain ⟨e, rfl⟩ : ∃ e, d = e + 1 := ⟨d - 1, by omega⟩
  exact w_Port_minutes ⟨S_Port_drawMap (by omega), S_Port_minutesOnMap (by omega), trivial⟩
set_option maxRecDepth 100000 in
theorem z_A_persons : pT[122]? = some (q_A_persons, 3, 3, 1, 11) := rfl
def W_A_persons (F : Int32 → Int32 → M Int32) : CSem := fun _ args k => match args with
  | [(t0, .ref a0), (_, .int a1), (_, .int a2)] => mB (Nat.beq t0 111) <| bn (F a1 a2) fun v => k (some (0, .int v))
  | _ => fl
def cs_A_persons (f_A_within : Int32 → Int32 → Int32 → M Int32) (f_Port_fewestPersons : M Int32) (f_Port_minutes : Int32 → Int32 → M Int32) : List (Nat × Nat × CSem) := [(18, 3, W_A_within f_A_within), (123, 1, W_Port_fewestPersons f_Port_fewestPersons), (131, 3, W_Port_minutes f_Port_minutes)]
def F_A_persons (x1 : Int32) (x2 : Int32) : M (Int32) :=
  (if x1 = (-1 : Int32) then
    bn (F_Port_fewestPersons) fun v4 =>
    rt v4
  else
    bn (F_A_within x1 (0 : Int32) (9 : Int32)) fun v1 =>
    (if v1 = 0 then
      rt (-1 : Int32)
    else
      bn (F_A_within x2 (0 : Int32) (9 : Int32)) fun v2 =>
      (if v2 = 0 then
        rt (-1 : Int32)
      else
        bn (F_Port_minutes x1 x2) fun v3 =>
        rt v3)))
set_option maxRecDepth 4000 in
theorem e_s_A_persons_0 (f_A_within : Int32 → Int32 → Int32 → M Int32) (f_Port_fewestPersons : M Int32) (f_Port_minutes : Int32 → Int32 → M Int32) (x1 : Int32) (x2 : Int32) : wf (β := Int32) L X q_A_persons 1 (cs_A_persons f_A_within f_Port_fewestPersons f_Port_minutes) [] [] (fun _ _ _ => fl) (fun v => match v with | some (_, .int x) => rt x | _ => fl) 30 0 [(111, .ref 0), (0, .int x1), (0, .int x2)] [] = ((if x1 = (-1 : Int32) then
    bn (f_Port_fewestPersons) fun v4 =>
    rt v4
  else
    bn (f_A_within x1 (0 : Int32) (9 : Int32)) fun v1 =>
    (if v1 = 0 then
      rt (-1 : Int32)
    else
      bn (f_A_within x2 (0 : Int32) (9 : Int32)) fun v2 =>
      (if v2 = 0 then
        rt (-1 : Int32)
      else
        bn (f_Port_minutes x1 x2) fun v3 =>
        rt v3)))) := rfl
theorem s_A_persons_0 {d : Nat} (hcs : AllS L X d (cs_A_persons F_A_within F_Port_fewestPersons F_Port_minutes)) (x1 : Int32) (x2 : Int32) {o : Option Value × PH} {Q : (Int32) → MI → Prop} (q0 : ∀ v I, Q v I → o = (some (.int v), HH I)) (I : MI) (r : Int32) (I1 : MI) (h : F_A_persons x1 x2 I = some (r, I1)) (hq : Q r I1) : At L X (d + 1) 122 0 [(111, .ref 0), (0, .int x1), (0, .int x2)] [] I o := by
  refine wf_ok z_A_persons hcs ?_ ?_ _ _ _ _ _ ⟨rfl, trivial, trivial, trivial⟩ trivial (unm_refl _ _) ((congrFun (e_s_A_persons_0 (L := L) (X := X) F_A_within F_Port_fewestPersons F_Port_minutes x1 x2) I).trans h)
  · intro pc ls st I2 h1 h2 h3 h
    cases h
  · intro v I2 _ h
    split at h
    · cases h; exact q0 _ _ hq
    · cases h
theorem w_A_persons {d : Nat} (hcs : AllS L X d (cs_A_persons F_A_within F_Port_fewestPersons F_Port_minutes)) : Snd L X (d + 1) 122 3 (W_A_persons F_A_persons) := by
  refine ⟨_, z_A_persons, rfl, fun β args k I r hty hlen h => ?_⟩
  unfold W_A_persons at h
  split at h
  · rename_i t0 a0 u1 a1 u2 a2
    obtain ⟨hb0, h⟩ := mB_ok h
    have e0 := Nat.eq_of_beq_eq_true hb0
    have g0 : okB 111 a0 = true := e0 ▸ hty.1
    have e20 := one_111 g0
    subst e20
    obtain ⟨v, I1, h1, h2⟩ := bn_some h
    refine ⟨gf_obj (c := 11) (by decide) g0, rfl, some (0, .int v), I1, trivial, ?_, h2⟩
    exact s_A_persons_0 hcs a1 a2  (Q := fun w I => w = v ∧ I = I1) (fun w I q => by obtain ⟨rfl, rfl⟩ := q; rfl) I v I1 h1 ⟨rfl, rfl⟩
  · cases h
theorem S_A_persons {d : Nat} (hd : 33 ≤ d) : Snd L X d 122 3 (W_A_persons F_A_persons) := by
  obtain ⟨e, rfl⟩ : ∃ e, d = e + 1 := ⟨d - 1, by omega⟩
  exact w_A_persons ⟨S_A_within (by omega), S_Port_fewestPersons (by omega), S_Port_minutes (by omega), trivial⟩
set_option maxRecDepth 100000 in
theorem z_A_says : pT[142]? = some (q_A_says, 4, 4, 1, 11) := rfl
def W_A_says (F : Int32 → Int32 → Int32 → M Int32) : CSem := fun _ args k => match args with
  | [(t0, .ref a0), (_, .int a1), (_, .int a2), (_, .int a3)] => mB (Nat.beq t0 111) <| bn (F a1 a2 a3) fun v => k (some (0, .int v))
  | _ => fl
def cs_A_says (f_A_within : Int32 → Int32 → Int32 → M Int32) (f_Table_put : Nat → Int32 → Int32 → Int32 → M Int32) (f_Table_wipe : Nat → M Int32) : List (Nat × Nat × CSem) := [(18, 3, W_A_within f_A_within), (106, 4, W_Table_put f_Table_put), (77, 1, W_Table_wipe f_Table_wipe)]
def F_A_says (x1 : Int32) (x2 : Int32) (x3 : Int32) : M (Int32) :=
  (if x1 = (-1 : Int32) then
    bn (F_Table_wipe 31) fun v5 =>
    rt v5
  else
    bn (F_A_within x1 (0 : Int32) (7 : Int32)) fun v1 =>
    (if v1 = 0 then
      rt (-1 : Int32)
    else
      bn (F_A_within x2 (0 : Int32) (7 : Int32)) fun v2 =>
      (if v2 = 0 then
        rt (-1 : Int32)
      else
        (if x3 = 0 then
          bn (F_Table_put 31 x1 x2 (0 : Int32)) fun v3 =>
          rt v3
        else
          bn (F_Table_put 31 x1 x2 (1 : Int32)) fun v4 =>
          rt v4))))
set_option maxRecDepth 4000 in
theorem e_s_A_says_0 (f_A_within : Int32 → Int32 → Int32 → M Int32) (f_Table_put : Nat → Int32 → Int32 → Int32 → M Int32) (f_Table_wipe : Nat → M Int32) (x1 : Int32) (x2 : Int32) (x3 : Int32) : wf (β := Int32) L X q_A_says 1 (cs_A_says f_A_within f_Table_put f_Table_wipe) [] [] (fun _ _ _ => fl) (fun v => match v with | some (_, .int x) => rt x | _ => fl) 37 0 [(111, .ref 0), (0, .int x1), (0, .int x2), (0, .int x3)] [] = ((if x1 = (-1 : Int32) then
    bn (f_Table_wipe 31) fun v5 =>
    rt v5
  else
    bn (f_A_within x1 (0 : Int32) (7 : Int32)) fun v1 =>
    (if v1 = 0 then
      rt (-1 : Int32)
    else
      bn (f_A_within x2 (0 : Int32) (7 : Int32)) fun v2 =>
      (if v2 = 0 then
        rt (-1 : Int32)
      else
        (if x3 = 0 then
          bn (f_Table_put 31 x1 x2 (0 : Int32)) fun v3 =>
          rt v3
        else
          bn (f_Table_put 31 x1 x2 (1 : Int32)) fun v4 =>
          rt v4))))) := rfl
theorem s_A_says_0 {d : Nat} (hcs : AllS L X d (cs_A_says F_A_within F_Table_put F_Table_wipe)) (x1 : Int32) (x2 : Int32) (x3 : Int32) {o : Option Value × PH} {Q : (Int32) → MI → Prop} (q0 : ∀ v I, Q v I → o = (some (.int v), HH I)) (I : MI) (r : Int32) (I1 : MI) (h : F_A_says x1 x2 x3 I = some (r, I1)) (hq : Q r I1) : At L X (d + 1) 142 0 [(111, .ref 0), (0, .int x1), (0, .int x2), (0, .int x3)] [] I o := by
  refine wf_ok z_A_says hcs ?_ ?_ _ _ _ _ _ ⟨rfl, trivial, trivial, trivial, trivial⟩ trivial (unm_refl _ _) ((congrFun (e_s_A_says_0 (L := L) (X := X) F_A_within F_Table_put F_Table_wipe x1 x2 x3) I).trans h)
  · intro pc ls st I2 h1 h2 h3 h
    cases h
  · intro v I2 _ h
    split at h
    · cases h; exact q0 _ _ hq
    · cases h
theorem w_A_says {d : Nat} (hcs : AllS L X d (cs_A_says F_A_within F_Table_put F_Table_wipe)) : Snd L X (d + 1) 142 4 (W_A_says F_A_says) := by
  refine ⟨_, z_A_says, rfl, fun β args k I r hty hlen h => ?_⟩
  unfold W_A_says at h
  split at h
  · rename_i t0 a0 u1 a1 u2 a2 u3 a3
    obtain ⟨hb0, h⟩ := mB_ok h
    have e0 := Nat.eq_of_beq_eq_true hb0
    have g0 : okB 111 a0 = true := e0 ▸ hty.1
    have e20 := one_111 g0
    subst e20
    obtain ⟨v, I1, h1, h2⟩ := bn_some h
    refine ⟨gf_obj (c := 11) (by decide) g0, rfl, some (0, .int v), I1, trivial, ?_, h2⟩
    exact s_A_says_0 hcs a1 a2 a3  (Q := fun w I => w = v ∧ I = I1) (fun w I q => by obtain ⟨rfl, rfl⟩ := q; rfl) I v I1 h1 ⟨rfl, rfl⟩
  · cases h
theorem S_A_says {d : Nat} (hd : 4 ≤ d) : Snd L X d 142 4 (W_A_says F_A_says) := by
  obtain ⟨e, rfl⟩ : ∃ e, d = e + 1 := ⟨d - 1, by omega⟩
  exact w_A_says ⟨S_A_within (by omega), S_Table_put (by omega), S_Table_wipe (by omega), trivial⟩
set_option maxRecDepth 100000 in
theorem z_World_change1 : pT[24]? = some (q_World_change1, 5, 5, 2, 99) := rfl
def W_World_change1 (F : Nat → Int32 → Int32 → Int32 → Int32 → M Int32) : CSem := fun _ args k => match args with
  | [(t0, .ref a0), (_, .int a1), (_, .int a2), (_, .int a3), (_, .int a4)] => mB (anyA t0) <| bn (F a0 a1 a2 a3 a4) fun v => k (some (0, .int v))
  | _ => fl
def cs_World_change1 (f_A_within : Int32 → Int32 → Int32 → M Int32) : List (Nat × Nat × CSem) := [(18, 3, W_A_within f_A_within)]
def F_World_change1 (r0 : Nat) (x1 : Int32) (x2 : Int32) (x3 : Int32) (x4 : Int32) : M (Int32) :=
  bn (F_A_within x3 (0 : Int32) (x1 - (1 : Int32))) fun v1 =>
  (if v1 = 0 then
    bn (gdZ (0 : Int32)) fun _ => rt (0 : Int32)
  else
    bn (F_A_within x4 (0 : Int32) x2) fun v2 =>
    (if v2 = 0 then
      bn (gdZ (0 : Int32)) fun _ => rt (0 : Int32)
    else
      (if x3 < (Int32.ofNat (siz shT r0)) then
        bn (sr (siz shT r0) r0 x3 x4) fun _ =>
        bn (gdZ (1 : Int32)) fun _ => rt (1 : Int32)
      else
        bn (gdZ (0 : Int32)) fun _ => rt (0 : Int32))))
set_option maxRecDepth 4000 in
theorem e_s_World_change1_0 (f_A_within : Int32 → Int32 → Int32 → M Int32) (r0 : Nat) (x1 : Int32) (x2 : Int32) (x3 : Int32) (x4 : Int32) : wf (β := Int32) L X q_World_change1 2 (cs_World_change1 f_A_within) [] [] (fun _ _ _ => fl) (fun v => match v with | some (_, .int x) => rt x | _ => fl) 29 0 [(9999, .ref r0), (0, .int x1), (0, .int x2), (0, .int x3), (0, .int x4)] [] = (bn (f_A_within x3 (0 : Int32) (x1 - (1 : Int32))) fun v1 =>
  (if v1 = 0 then
    bn (gdZ (0 : Int32)) fun _ => rt (0 : Int32)
  else
    bn (f_A_within x4 (0 : Int32) x2) fun v2 =>
    (if v2 = 0 then
      bn (gdZ (0 : Int32)) fun _ => rt (0 : Int32)
    else
      (if x3 < (Int32.ofNat (siz shT r0)) then
        bn (sr (siz shT r0) r0 x3 x4) fun _ =>
        bn (gdZ (1 : Int32)) fun _ => rt (1 : Int32)
      else
        bn (gdZ (0 : Int32)) fun _ => rt (0 : Int32))))) := rfl
theorem s_World_change1_0 {d : Nat} (hcs : AllS L X d (cs_World_change1 F_A_within)) (r0 : Nat) (x1 : Int32) (x2 : Int32) (x3 : Int32) (x4 : Int32) (t0 : okB 9999 r0 = true) {o : Option Value × PH} {Q : (Int32) → MI → Prop} (q0 : ∀ v I, Q v I → o = (some (.int v), HH I)) (I : MI) (r : Int32) (I1 : MI) (h : F_World_change1 r0 x1 x2 x3 x4 I = some (r, I1)) (hq : Q r I1) : At L X (d + 1) 24 0 [(9999, .ref r0), (0, .int x1), (0, .int x2), (0, .int x3), (0, .int x4)] [] I o := by
  refine wf_ok z_World_change1 hcs ?_ ?_ _ _ _ _ _ ⟨t0, trivial, trivial, trivial, trivial, trivial⟩ trivial (unm_refl _ _) ((congrFun (e_s_World_change1_0 (L := L) (X := X) F_A_within r0 x1 x2 x3 x4) I).trans h)
  · intro pc ls st I2 h1 h2 h3 h
    cases h
  · intro v I2 _ h
    split at h
    · cases h; exact q0 _ _ hq
    · cases h
theorem w_World_change1 {d : Nat} (hcs : AllS L X d (cs_World_change1 F_A_within)) : Snd L X (d + 1) 24 5 (W_World_change1 F_World_change1) := by
  refine ⟨_, z_World_change1, rfl, fun β args k I r hty hlen h => ?_⟩
  unfold W_World_change1 at h
  split at h
  · rename_i t0 a0 u1 a1 u2 a2 u3 a3 u4 a4
    obtain ⟨hb0, h⟩ := mB_ok h
    have g0 : okB 9999 a0 = true := okB_any hty.1 hb0
    obtain ⟨v, I1, h1, h2⟩ := bn_some h
    refine ⟨rfl, rfl, some (0, .int v), I1, trivial, ?_, h2⟩
    exact s_World_change1_0 hcs a0 a1 a2 a3 a4 g0 (Q := fun w I => w = v ∧ I = I1) (fun w I q => by obtain ⟨rfl, rfl⟩ := q; rfl) I v I1 h1 ⟨rfl, rfl⟩
  · cases h
theorem S_World_change1 {d : Nat} (hd : 2 ≤ d) : Snd L X d 24 5 (W_World_change1 F_World_change1) := by
  obtain ⟨e, rfl⟩ : ∃ e, d = e + 1 := ⟨d - 1, by omega⟩
  exact w_World_change1 ⟨S_A_within (by omega), trivial⟩
end
