/-! methods (written by wip/tools/gen_f.py) -/
section
variable {L : Nat} {X : Nat → Int32}
set_option maxRecDepth 100000 in
theorem z_Hours_keepDiary : pT[35]? = some (q_Hours_keepDiary, 1, 3, 0, 1) := rfl
def W_Hours_keepDiary (F : Nat → M Unit) : CSem := fun _ args k => match args with
  | [(t0, .ref a0)] => mB (Nat.beq t0 101) <| bn (F a0) fun _ => k none
  | _ => fl
def cs_Hours_keepDiary (f_Hours_keepLine : Nat → Int32 → Int32 → Int32 → M Unit) (f_Table_at : Nat → Int32 → Int32 → M Int32) : List (Nat × Nat × CSem) := [(37, 4, W_Hours_keepLine f_Hours_keepLine), (36, 3, W_Table_at f_Table_at)]
def B_Hours_keepDiary_13 (r0 : Nat) (y : Int32) : M ((Int32) ⊕ (Unit)) :=
  bn (rd 23 3) fun v1 =>
  (if y < v1 then
    bn (F_Table_at 23 y (0 : Int32)) fun v2 =>
    bn (rd (hw r0) 5) fun v3 =>
    (if v2 = v3 then
      bn (F_Table_at 23 y (1 : Int32)) fun v4 =>
      bn (rd (hw r0) 4) fun v5 =>
      (if v4 = v5 then
        bn (F_Table_at 23 y (2 : Int32)) fun v6 =>
        bn (F_Table_at 23 y (3 : Int32)) fun v7 =>
        bn (F_Table_at 23 y (4 : Int32)) fun v8 =>
        bn (F_Hours_keepLine r0 v6 v7 v8) fun _ =>
        rt (.inl (y + (1 : Int32)))
      else
        rt (.inl (y + (1 : Int32))))
    else
      rt (.inl (y + (1 : Int32))))
  else
    rt (.inr ()))
set_option maxRecDepth 4000 in
theorem e_b_Hours_keepDiary_13 (f_Hours_keepLine : Nat → Int32 → Int32 → Int32 → M Unit) (f_Table_at : Nat → Int32 → Int32 → M Int32) (r0 : Nat) (y : Int32) : wf (β := (Int32) ⊕ (Unit)) L X q_Hours_keepDiary 0 (cs_Hours_keepDiary f_Hours_keepLine f_Table_at) [2] [13] (fun pc ls st => mC (Nat.beq pc 13) (mN st <| gI ls 2 fun a2 => rt (.inl a2)) (fl)) (fun v => match v with | none => rt (.inr ()) | _ => fl) 49 13 [(101, .ref r0), (108, .ref 23), (0, .int y)] [] = (bn (rd 23 3) fun v1 =>
  (if y < v1 then
    bn (f_Table_at 23 y (0 : Int32)) fun v2 =>
    bn (rd (hw r0) 5) fun v3 =>
    (if v2 = v3 then
      bn (f_Table_at 23 y (1 : Int32)) fun v4 =>
      bn (rd (hw r0) 4) fun v5 =>
      (if v4 = v5 then
        bn (f_Table_at 23 y (2 : Int32)) fun v6 =>
        bn (f_Table_at 23 y (3 : Int32)) fun v7 =>
        bn (f_Table_at 23 y (4 : Int32)) fun v8 =>
        bn (f_Hours_keepLine r0 v6 v7 v8) fun _ =>
        rt (.inl (y + (1 : Int32)))
      else
        rt (.inl (y + (1 : Int32))))
    else
      rt (.inl (y + (1 : Int32))))
  else
    rt (.inr ()))) := rfl
theorem b_Hours_keepDiary_13 {d : Nat} (hcs : AllS L X d (cs_Hours_keepDiary F_Hours_keepLine F_Table_at)) (r0 : Nat) (t0 : okB 101 r0 = true) {o : Option Value × PH} {Q : ((Int32) ⊕ (Unit)) → MI → Prop} (qb : ∀ y I, Q (.inl y) I → At L X (d + 1) 35 13 [(101, .ref r0), (108, .ref 23), (0, .int y)] [] I o) (qr : ∀ v I, Q (.inr v) I → o = (none, HH I)) (y : Int32) (I : MI) (r : (Int32) ⊕ (Unit)) (I1 : MI) (h : B_Hours_keepDiary_13 r0 y I = some (r, I1)) (hq : Q r I1) : At L X (d + 1) 35 13 [(101, .ref r0), (108, .ref 23), (0, .int y)] [] I o := by
  refine wf_ok z_Hours_keepDiary hcs ?_ ?_ _ _ _ _ _ ⟨t0, rfl, trivial, trivial⟩ trivial (unm_refl _ _) ((congrFun (e_b_Hours_keepDiary_13 (L := L) (X := X) F_Hours_keepLine F_Table_at r0 y) I).trans h)
  · intro pc ls st I2 h1 h2 h3 h
    rcases mC_ok h with ⟨hb, h⟩ | ⟨_, h⟩
    · have e := Nat.eq_of_beq_eq_true hb
      subst e
      obtain ⟨hst, h⟩ := mN_ok h
      subst hst
      obtain ⟨a2, n2, h⟩ := gI_ok h
      refine at_leaf (ls2 := [(101, .ref r0), (108, .ref 23), (0, .int a2)]) h3.1 ⟨Or.inr ⟨_, (h3.2 0 rfl).trans rfl⟩, Or.inr ⟨_, (h3.2 1 rfl).trans rfl⟩, Or.inr n2, trivial⟩ ?_
      cases h; exact qb _ _ hq
    cases h
  · intro v I2 _ h
    split at h
    · cases h; exact qr _ _ hq
    · cases h
def K_Hours_keepDiary_13 (r0 : Nat) (x2 : Int32) : M (Unit) :=
  lp (B_Hours_keepDiary_13 r0) FU x2
theorem s_Hours_keepDiary_13 {d : Nat} (hcs : AllS L X d (cs_Hours_keepDiary F_Hours_keepLine F_Table_at)) (r0 : Nat) (x2 : Int32) (t0 : okB 101 r0 = true) {o : Option Value × PH} {Q : (Unit) → MI → Prop} (q0 : ∀ v I, Q v I → o = (none, HH I)) (I : MI) (r : Unit) (I1 : MI) (h : K_Hours_keepDiary_13 r0 x2 I = some (r, I1)) (hq : Q r I1) : At L X (d + 1) 35 13 [(101, .ref r0), (108, .ref 23), (0, .int x2)] [] I o := by
  unfold K_Hours_keepDiary_13 at h
  have w0 := fun w => at_lp (body := B_Hours_keepDiary_13 r0) (P := (fun (y : Int32) I => At L X (d + 1) 35 13 [(101, .ref r0), (108, .ref 23), (0, .int y)] [] I o)) (Q := (fun (e : Unit) I => Q e I)) w FU x2 I r I1 h hq
  refine w0 ?_
  intro y I r I1 h hq
  exact b_Hours_keepDiary_13 hcs r0 t0 (Q := SQ (fun (y : Int32) I => At L X (d + 1) 35 13 [(101, .ref r0), (108, .ref 23), (0, .int y)] [] I o) (fun (e : Unit) I => Q e I)) (fun _ _ w => w) q0 y I r I1 h hq
def F_Hours_keepDiary (r0 : Nat) : M (Unit) :=
  K_Hours_keepDiary_13 r0 (0 : Int32)
set_option maxRecDepth 4000 in
theorem e_s_Hours_keepDiary_0 (f_Hours_keepLine : Nat → Int32 → Int32 → Int32 → M Unit) (f_Table_at : Nat → Int32 → Int32 → M Int32) (k_13 : Nat → Int32 → M (Unit)) (r0 : Nat) : wf (β := Unit) L X q_Hours_keepDiary 0 (cs_Hours_keepDiary f_Hours_keepLine f_Table_at) [1, 2] [13] (fun pc ls st => mC (Nat.beq pc 13) (mN st <| gC ls 1 108 23 <| gI ls 2 fun a2 => k_13 r0 a2) (fl)) (fun v => match v with | none => rt () | _ => fl) 49 0 [(101, .ref r0), (0, dV), (0, dV)] [] = (k_13 r0 (0 : Int32)) := rfl
theorem s_Hours_keepDiary_0 {d : Nat} (hcs : AllS L X d (cs_Hours_keepDiary F_Hours_keepLine F_Table_at)) (r0 : Nat) (t0 : okB 101 r0 = true) {o : Option Value × PH} {Q : (Unit) → MI → Prop} (q0 : ∀ v I, Q v I → o = (none, HH I)) (I : MI) (r : Unit) (I1 : MI) (h : F_Hours_keepDiary r0 I = some (r, I1)) (hq : Q r I1) : At L X (d + 1) 35 0 [(101, .ref r0), (0, dV), (0, dV)] [] I o := by
  refine wf_ok z_Hours_keepDiary hcs ?_ ?_ _ _ _ _ _ ⟨t0, trivial, trivial, trivial⟩ trivial (unm_refl _ _) ((congrFun (e_s_Hours_keepDiary_0 (L := L) (X := X) F_Hours_keepLine F_Table_at K_Hours_keepDiary_13 r0) I).trans h)
  · intro pc ls st I2 h1 h2 h3 h
    rcases mC_ok h with ⟨hb, h⟩ | ⟨_, h⟩
    · have e := Nat.eq_of_beq_eq_true hb
      subst e
      obtain ⟨hst, h⟩ := mN_ok h
      subst hst
      obtain ⟨n1, h⟩ := gC_ok h
      obtain ⟨a2, n2, h⟩ := gI_ok h
      refine at_leaf (ls2 := [(101, .ref r0), (108, .ref 23), (0, .int a2)]) h3.1 ⟨Or.inr ⟨_, (h3.2 0 rfl).trans rfl⟩, Or.inr n1, Or.inr n2, trivial⟩ ?_
      exact s_Hours_keepDiary_13 hcs r0 a2 t0 q0 _ _ _ h hq
    cases h
  · intro v I2 _ h
    split at h
    · cases h; exact q0 _ _ hq
    · cases h
theorem w_Hours_keepDiary {d : Nat} (hcs : AllS L X d (cs_Hours_keepDiary F_Hours_keepLine F_Table_at)) : Snd L X (d + 1) 35 1 (W_Hours_keepDiary F_Hours_keepDiary) := by
  refine ⟨_, z_Hours_keepDiary, rfl, fun β args k I r hty hlen h => ?_⟩
  unfold W_Hours_keepDiary at h
  split at h
  · rename_i t0 a0
    obtain ⟨hb0, h⟩ := mB_ok h
    have e0 := Nat.eq_of_beq_eq_true hb0
    have g0 : okB 101 a0 = true := e0 ▸ hty.1
    obtain ⟨v, I1, h1, h2⟩ := bn_some h
    refine ⟨gf_obj (c := 1) (by decide) g0, rfl, none, I1, trivial, ?_, h2⟩
    exact s_Hours_keepDiary_0 hcs a0 g0 (Q := fun w I => w = v ∧ I = I1) (fun w I q => by obtain ⟨rfl, rfl⟩ := q; rfl) I v I1 h1 ⟨rfl, rfl⟩
  · cases h
theorem S_Hours_keepDiary {d : Nat} (hd : 3 ≤ d) : Snd L X d 35 1 (W_Hours_keepDiary F_Hours_keepDiary) := by
  obtain ⟨e, rfl⟩ : ∃ e, d = e + 1 := ⟨d - 1, by omega⟩
  exact w_Hours_keepDiary ⟨S_Hours_keepLine (by omega), S_Table_at (by omega), trivial⟩
set_option maxRecDepth 100000 in
theorem z_Hours_goesHimself : pT[43]? = some (q_Hours_goesHimself, 2, 5, 1, 1) := rfl
def W_Hours_goesHimself (F : Nat → Int32 → M Int32) : CSem := fun _ args k => match args with
  | [(t0, .ref a0), (_, .int a1)] => mB (Nat.beq t0 101) <| bn (F a0 a1) fun v => k (some (0, .int v))
  | _ => fl
def cs_Hours_goesHimself : List (Nat × Nat × CSem) := []
def K_Hours_goesHimself_44 (r0 : Nat) (x1 : Int32) (x2 : Int32) (x3 : Int32) : M ((Int32 × Int32) ⊕ (Int32)) :=
  (if (0 : Int32) = 0 then
    rt (.inl (x2, (x3 + (1 : Int32))))
  else
    (if x2 = (-1 : Int32) then
      rt (.inl (x3, (x3 + (1 : Int32))))
    else
      bn (ld 18 ((hw r0) + 5) x3) fun v1 =>
      bn (ld 18 ((hw r0) + 5) x2) fun v2 =>
      (if v2 < v1 then
        rt (.inl (x3, (x3 + (1 : Int32))))
      else
        rt (.inl (x2, (x3 + (1 : Int32)))))))
set_option maxRecDepth 4000 in
theorem e_s_Hours_goesHimself_44 (r0 : Nat) (x1 : Int32) (x2 : Int32) (x3 : Int32) : wf (β := (Int32 × Int32) ⊕ (Int32)) L X q_Hours_goesHimself 1 cs_Hours_goesHimself [2, 3, 4] [4, 44] (fun pc ls st => mC (Nat.beq pc 4) (mN st <| gI ls 2 fun a2 => gI ls 3 fun a3 => gD ls 4 <| rt (.inl (a2, a3))) (fl)) (fun v => match v with | some (_, .int x) => rt (.inr x) | _ => fl) 53 44 [(101, .ref r0), (0, .int x1), (0, .int x2), (0, .int x3), (0, dV)] [] = ((if (0 : Int32) = 0 then
    rt (.inl (x2, (x3 + (1 : Int32))))
  else
    (if x2 = (-1 : Int32) then
      rt (.inl (x3, (x3 + (1 : Int32))))
    else
      bn (ld 18 ((hw r0) + 5) x3) fun v1 =>
      bn (ld 18 ((hw r0) + 5) x2) fun v2 =>
      (if v2 < v1 then
        rt (.inl (x3, (x3 + (1 : Int32))))
      else
        rt (.inl (x2, (x3 + (1 : Int32)))))))) := rfl
theorem s_Hours_goesHimself_44 {d : Nat} (hcs : AllS L X d cs_Hours_goesHimself) (r0 : Nat) (x1 : Int32) (x2 : Int32) (x3 : Int32) (t0 : okB 101 r0 = true) {o : Option Value × PH} {Q : ((Int32 × Int32) ⊕ (Int32)) → MI → Prop} (qb : ∀ y I, Q (.inl y) I → At L X (d + 1) 43 4 [(101, .ref r0), (0, .int x1), (0, .int y.1), (0, .int y.2), (0, dV)] [] I o) (qr : ∀ v I, Q (.inr v) I → o = (some (.int v), HH I)) (I : MI) (r : (Int32 × Int32) ⊕ (Int32)) (I1 : MI) (h : K_Hours_goesHimself_44 r0 x1 x2 x3 I = some (r, I1)) (hq : Q r I1) : At L X (d + 1) 43 44 [(101, .ref r0), (0, .int x1), (0, .int x2), (0, .int x3), (0, dV)] [] I o := by
  refine wf_ok z_Hours_goesHimself hcs ?_ ?_ _ _ _ _ _ ⟨t0, trivial, trivial, trivial, trivial, trivial⟩ trivial (unm_refl _ _) ((congrFun (e_s_Hours_goesHimself_44 (L := L) (X := X) r0 x1 x2 x3) I).trans h)
  · intro pc ls st I2 h1 h2 h3 h
    rcases mC_ok h with ⟨hb, h⟩ | ⟨_, h⟩
    · have e := Nat.eq_of_beq_eq_true hb
      subst e
      obtain ⟨hst, h⟩ := mN_ok h
      subst hst
      obtain ⟨a2, n2, h⟩ := gI_ok h
      obtain ⟨a3, n3, h⟩ := gI_ok h
      obtain ⟨n4, h⟩ := gD_ok h
      refine at_leaf (ls2 := [(101, .ref r0), (0, .int x1), (0, .int a2), (0, .int a3), (0, dV)]) h3.1 ⟨Or.inr ⟨_, (h3.2 0 rfl).trans rfl⟩, Or.inr ⟨_, (h3.2 1 rfl).trans rfl⟩, Or.inr n2, Or.inr n3, Or.inl ⟨rfl, n4⟩, trivial⟩ ?_
      cases h; exact qb _ _ hq
    cases h
  · intro v I2 _ h
    split at h
    · cases h; exact qr _ _ hq
    · cases h
def B_Hours_goesHimself_4 (r0 : Nat) (x1 : Int32) (y : Int32 × Int32) : M ((Int32 × Int32) ⊕ (Int32)) :=
  bn (rd (hw r0) 8) fun v1 =>
  (if y.2 < v1 then
    bn (ld 18 ((hw r0) + 4) y.2) fun v2 =>
    (if v2 = x1 then
      bn (ld 18 ((hw r0) + 8) y.2) fun v3 =>
      (if v3 = 0 then
        K_Hours_goesHimself_44 r0 x1 y.1 y.2
      else
        (if (1 : Int32) = 0 then
          rt (.inl (y.1, (y.2 + (1 : Int32))))
        else
          (if y.1 = (-1 : Int32) then
            rt (.inl (y.2, (y.2 + (1 : Int32))))
          else
            bn (ld 18 ((hw r0) + 5) y.2) fun v4 =>
            bn (ld 18 ((hw r0) + 5) y.1) fun v5 =>
            (if v5 < v4 then
              rt (.inl (y.2, (y.2 + (1 : Int32))))
            else
              rt (.inl (y.1, (y.2 + (1 : Int32))))))))
    else
      K_Hours_goesHimself_44 r0 x1 y.1 y.2)
  else
    rt (.inr y.1))
set_option maxRecDepth 4000 in
theorem e_b_Hours_goesHimself_4 (k_44 : Nat → Int32 → Int32 → Int32 → M ((Int32 × Int32) ⊕ (Int32))) (r0 : Nat) (x1 : Int32) (y : Int32 × Int32) : wf (β := (Int32 × Int32) ⊕ (Int32)) L X q_Hours_goesHimself 1 cs_Hours_goesHimself [2, 3, 4] [4, 44] (fun pc ls st => mC (Nat.beq pc 4) (mN st <| gI ls 2 fun a2 => gI ls 3 fun a3 => gD ls 4 <| rt (.inl (a2, a3))) (mC (Nat.beq pc 44) (mN st <| gI ls 2 fun a2 => gI ls 3 fun a3 => gD ls 4 <| k_44 r0 x1 a2 a3) (fl))) (fun v => match v with | some (_, .int x) => rt (.inr x) | _ => fl) 53 4 [(101, .ref r0), (0, .int x1), (0, .int y.1), (0, .int y.2), (0, dV)] [] = (bn (rd (hw r0) 8) fun v1 =>
  (if y.2 < v1 then
    bn (ld 18 ((hw r0) + 4) y.2) fun v2 =>
    (if v2 = x1 then
      bn (ld 18 ((hw r0) + 8) y.2) fun v3 =>
      (if v3 = 0 then
        k_44 r0 x1 y.1 y.2
      else
        (if (1 : Int32) = 0 then
          rt (.inl (y.1, (y.2 + (1 : Int32))))
        else
          (if y.1 = (-1 : Int32) then
            rt (.inl (y.2, (y.2 + (1 : Int32))))
          else
            bn (ld 18 ((hw r0) + 5) y.2) fun v4 =>
            bn (ld 18 ((hw r0) + 5) y.1) fun v5 =>
            (if v5 < v4 then
              rt (.inl (y.2, (y.2 + (1 : Int32))))
            else
              rt (.inl (y.1, (y.2 + (1 : Int32))))))))
    else
      k_44 r0 x1 y.1 y.2)
  else
    rt (.inr y.1))) := rfl
theorem b_Hours_goesHimself_4 {d : Nat} (hcs : AllS L X d cs_Hours_goesHimself) (r0 : Nat) (x1 : Int32) (t0 : okB 101 r0 = true) {o : Option Value × PH} {Q : ((Int32 × Int32) ⊕ (Int32)) → MI → Prop} (qb : ∀ y I, Q (.inl y) I → At L X (d + 1) 43 4 [(101, .ref r0), (0, .int x1), (0, .int y.1), (0, .int y.2), (0, dV)] [] I o) (qr : ∀ v I, Q (.inr v) I → o = (some (.int v), HH I)) (y : Int32 × Int32) (I : MI) (r : (Int32 × Int32) ⊕ (Int32)) (I1 : MI) (h : B_Hours_goesHimself_4 r0 x1 y I = some (r, I1)) (hq : Q r I1) : At L X (d + 1) 43 4 [(101, .ref r0), (0, .int x1), (0, .int y.1), (0, .int y.2), (0, dV)] [] I o := by
  refine wf_ok z_Hours_goesHimself hcs ?_ ?_ _ _ _ _ _ ⟨t0, trivial, trivial, trivial, trivial, trivial⟩ trivial (unm_refl _ _) ((congrFun (e_b_Hours_goesHimself_4 (L := L) (X := X) K_Hours_goesHimself_44 r0 x1 y) I).trans h)
  · intro pc ls st I2 h1 h2 h3 h
    rcases mC_ok h with ⟨hb, h⟩ | ⟨_, h⟩
    · have e := Nat.eq_of_beq_eq_true hb
      subst e
      obtain ⟨hst, h⟩ := mN_ok h
      subst hst
      obtain ⟨a2, n2, h⟩ := gI_ok h
      obtain ⟨a3, n3, h⟩ := gI_ok h
      obtain ⟨n4, h⟩ := gD_ok h
      refine at_leaf (ls2 := [(101, .ref r0), (0, .int x1), (0, .int a2), (0, .int a3), (0, dV)]) h3.1 ⟨Or.inr ⟨_, (h3.2 0 rfl).trans rfl⟩, Or.inr ⟨_, (h3.2 1 rfl).trans rfl⟩, Or.inr n2, Or.inr n3, Or.inl ⟨rfl, n4⟩, trivial⟩ ?_
      cases h; exact qb _ _ hq
    rcases mC_ok h with ⟨hb, h⟩ | ⟨_, h⟩
    · have e := Nat.eq_of_beq_eq_true hb
      subst e
      obtain ⟨hst, h⟩ := mN_ok h
      subst hst
      obtain ⟨a2, n2, h⟩ := gI_ok h
      obtain ⟨a3, n3, h⟩ := gI_ok h
      obtain ⟨n4, h⟩ := gD_ok h
      refine at_leaf (ls2 := [(101, .ref r0), (0, .int x1), (0, .int a2), (0, .int a3), (0, dV)]) h3.1 ⟨Or.inr ⟨_, (h3.2 0 rfl).trans rfl⟩, Or.inr ⟨_, (h3.2 1 rfl).trans rfl⟩, Or.inr n2, Or.inr n3, Or.inl ⟨rfl, n4⟩, trivial⟩ ?_
      exact s_Hours_goesHimself_44 hcs r0 x1 a2 a3 t0 qb qr _ _ _ h hq
    cases h
  · intro v I2 _ h
    split at h
    · cases h; exact qr _ _ hq
    · cases h
def K_Hours_goesHimself_4 (r0 : Nat) (x1 : Int32) (x2 : Int32) (x3 : Int32) : M (Int32) :=
  lp (B_Hours_goesHimself_4 r0 x1) FU (x2, x3)
theorem s_Hours_goesHimself_4 {d : Nat} (hcs : AllS L X d cs_Hours_goesHimself) (r0 : Nat) (x1 : Int32) (x2 : Int32) (x3 : Int32) (t0 : okB 101 r0 = true) {o : Option Value × PH} {Q : (Int32) → MI → Prop} (q0 : ∀ v I, Q v I → o = (some (.int v), HH I)) (I : MI) (r : Int32) (I1 : MI) (h : K_Hours_goesHimself_4 r0 x1 x2 x3 I = some (r, I1)) (hq : Q r I1) : At L X (d + 1) 43 4 [(101, .ref r0), (0, .int x1), (0, .int x2), (0, .int x3), (0, dV)] [] I o := by
  unfold K_Hours_goesHimself_4 at h
  have w0 := fun w => at_lp (body := B_Hours_goesHimself_4 r0 x1) (P := (fun (y : Int32 × Int32) I => At L X (d + 1) 43 4 [(101, .ref r0), (0, .int x1), (0, .int y.1), (0, .int y.2), (0, dV)] [] I o)) (Q := (fun (e : Int32) I => Q e I)) w FU (x2, x3) I r I1 h hq
  refine w0 ?_
  intro y I r I1 h hq
  exact b_Hours_goesHimself_4 hcs r0 x1 t0 (Q := SQ (fun (y : Int32 × Int32) I => At L X (d + 1) 43 4 [(101, .ref r0), (0, .int x1), (0, .int y.1), (0, .int y.2), (0, dV)] [] I o) (fun (e : Int32) I => Q e I)) (fun _ _ w => w) q0 y I r I1 h hq
def F_Hours_goesHimself (r0 : Nat) (x1 : Int32) : M (Int32) :=
  K_Hours_goesHimself_4 r0 x1 (-1 : Int32) (0 : Int32)
set_option maxRecDepth 4000 in
theorem e_s_Hours_goesHimself_0 (k_4 : Nat → Int32 → Int32 → Int32 → M (Int32)) (r0 : Nat) (x1 : Int32) : wf (β := Int32) L X q_Hours_goesHimself 1 cs_Hours_goesHimself [2, 3] [4, 44] (fun pc ls st => mC (Nat.beq pc 4) (mN st <| gI ls 2 fun a2 => gI ls 3 fun a3 => gD ls 4 <| k_4 r0 x1 a2 a3) (fl)) (fun v => match v with | some (_, .int x) => rt x | _ => fl) 53 0 [(101, .ref r0), (0, .int x1), (0, dV), (0, dV), (0, dV)] [] = (k_4 r0 x1 (-1 : Int32) (0 : Int32)) := rfl
theorem s_Hours_goesHimself_0 {d : Nat} (hcs : AllS L X d cs_Hours_goesHimself) (r0 : Nat) (x1 : Int32) (t0 : okB 101 r0 = true) {o : Option Value × PH} {Q : (Int32) → MI → Prop} (q0 : ∀ v I, Q v I → o = (some (.int v), HH I)) (I : MI) (r : Int32) (I1 : MI) (h : F_Hours_goesHimself r0 x1 I = some (r, I1)) (hq : Q r I1) : At L X (d + 1) 43 0 [(101, .ref r0), (0, .int x1), (0, dV), (0, dV), (0, dV)] [] I o := by
  refine wf_ok z_Hours_goesHimself hcs ?_ ?_ _ _ _ _ _ ⟨t0, trivial, trivial, trivial, trivial, trivial⟩ trivial (unm_refl _ _) ((congrFun (e_s_Hours_goesHimself_0 (L := L) (X := X) K_Hours_goesHimself_4 r0 x1) I).trans h)
  · intro pc ls st I2 h1 h2 h3 h
    rcases mC_ok h with ⟨hb, h⟩ | ⟨_, h⟩
    · have e := Nat.eq_of_beq_eq_true hb
      subst e
      obtain ⟨hst, h⟩ := mN_ok h
      subst hst
      obtain ⟨a2, n2, h⟩ := gI_ok h
      obtain ⟨a3, n3, h⟩ := gI_ok h
      obtain ⟨n4, h⟩ := gD_ok h
      refine at_leaf (ls2 := [(101, .ref r0), (0, .int x1), (0, .int a2), (0, .int a3), (0, dV)]) h3.1 ⟨Or.inr ⟨_, (h3.2 0 rfl).trans rfl⟩, Or.inr ⟨_, (h3.2 1 rfl).trans rfl⟩, Or.inr n2, Or.inr n3, Or.inl ⟨rfl, n4⟩, trivial⟩ ?_
      exact s_Hours_goesHimself_4 hcs r0 x1 a2 a3 t0 q0 _ _ _ h hq
    cases h
  · intro v I2 _ h
    split at h
    · cases h; exact q0 _ _ hq
    · cases h
theorem w_Hours_goesHimself {d : Nat} (hcs : AllS L X d cs_Hours_goesHimself) : Snd L X (d + 1) 43 2 (W_Hours_goesHimself F_Hours_goesHimself) := by
  refine ⟨_, z_Hours_goesHimself, rfl, fun β args k I r hty hlen h => ?_⟩
  unfold W_Hours_goesHimself at h
  split at h
  · rename_i t0 a0 u1 a1
    obtain ⟨hb0, h⟩ := mB_ok h
    have e0 := Nat.eq_of_beq_eq_true hb0
    have g0 : okB 101 a0 = true := e0 ▸ hty.1
    obtain ⟨v, I1, h1, h2⟩ := bn_some h
    refine ⟨gf_obj (c := 1) (by decide) g0, rfl, some (0, .int v), I1, trivial, ?_, h2⟩
    exact s_Hours_goesHimself_0 hcs a0 a1 g0 (Q := fun w I => w = v ∧ I = I1) (fun w I q => by obtain ⟨rfl, rfl⟩ := q; rfl) I v I1 h1 ⟨rfl, rfl⟩
  · cases h
theorem S_Hours_goesHimself {d : Nat} (hd : 1 ≤ d) : Snd L X d 43 2 (W_Hours_goesHimself F_Hours_goesHimself) := by
  obtain ⟨e, rfl⟩ : ∃ e, d = e + 1 := ⟨d - 1, by omega⟩
  exact w_Hours_goesHimself trivial
set_option maxRecDepth 100000 in
theorem z_Hours_sendCousins : pT[42]? = some (q_Hours_sendCousins, 2, 4, 0, 1) := rfl
def W_Hours_sendCousins (F : Nat → Int32 → M Unit) : CSem := fun _ args k => match args with
  | [(t0, .ref a0), (_, .int a1)] => mB (Nat.beq t0 101) <| bn (F a0 a1) fun _ => k none
  | _ => fl
def cs_Hours_sendCousins (f_Hours_goesHimself : Nat → Int32 → M Int32) (f_Hours_note : Nat → Int32 → Int32 → Int32 → M Unit) (f_World_charge : Nat → Int32 → Int32 → M Unit) : List (Nat × Nat × CSem) := [(43, 2, W_Hours_goesHimself f_Hours_goesHimself), (45, 4, W_Hours_note f_Hours_note), (44, 3, W_World_charge f_World_charge)]
def B_Hours_sendCousins_8 (r0 : Nat) (x1 : Int32) (x2 : Int32) (y : Int32) : M ((Int32) ⊕ (Unit)) :=
  bn (rd (hw r0) 8) fun v1 =>
  (if y < v1 then
    bn (ld 18 ((hw r0) + 4) y) fun v2 =>
    (if v2 = x1 then
      bn (ld 18 ((hw r0) + 8) y) fun v3 =>
      (if v3 = 0 then
        rt (.inl (y + (1 : Int32)))
      else
        (if y = x2 then
          rt (.inl (y + (1 : Int32)))
        else
          bn (rd (hw r0) 2) fun v4 =>
          bn (wr (hw r0) 2 (v4 + (1 : Int32))) fun _ =>
          bn (F_World_charge (hw r0) x1 (1 : Int32)) fun _ =>
          bn (ld 18 ((hw r0) + 7) y) fun v5 =>
          bn (F_Hours_note r0 (2 : Int32) y v5) fun _ =>
          rt (.inl (y + (1 : Int32)))))
    else
      rt (.inl (y + (1 : Int32))))
  else
    rt (.inr ()))
set_option maxRecDepth 4000 in
theorem e_b_Hours_sendCousins_8 (f_Hours_goesHimself : Nat → Int32 → M Int32) (f_Hours_note : Nat → Int32 → Int32 → Int32 → M Unit) (f_World_charge : Nat → Int32 → Int32 → M Unit) (r0 : Nat) (x1 : Int32) (x2 : Int32) (y : Int32) : wf (β := (Int32) ⊕ (Unit)) L X q_Hours_sendCousins 0 (cs_Hours_sendCousins f_Hours_goesHimself f_Hours_note f_World_charge) [3] [8] (fun pc ls st => mC (Nat.beq pc 8) (mN st <| gI ls 3 fun a3 => rt (.inl a3)) (fl)) (fun v => match v with | none => rt (.inr ()) | _ => fl) 56 8 [(101, .ref r0), (0, .int x1), (0, .int x2), (0, .int y)] [] = (bn (rd (hw r0) 8) fun v1 =>
  (if y < v1 then
    bn (ld 18 ((hw r0) + 4) y) fun v2 =>
    (if v2 = x1 then
      bn (ld 18 ((hw r0) + 8) y) fun v3 =>
      (if v3 = 0 then
        rt (.inl (y + (1 : Int32)))
      else
        (if y = x2 then
          rt (.inl (y + (1 : Int32)))
        else
          bn (rd (hw r0) 2) fun v4 =>
          bn (wr (hw r0) 2 (v4 + (1 : Int32))) fun _ =>
          bn (f_World_charge (hw r0) x1 (1 : Int32)) fun _ =>
          bn (ld 18 ((hw r0) + 7) y) fun v5 =>
          bn (f_Hours_note r0 (2 : Int32) y v5) fun _ =>
          rt (.inl (y + (1 : Int32)))))
    else
      rt (.inl (y + (1 : Int32))))
  else
    rt (.inr ()))) := rfl
theorem b_Hours_sendCousins_8 {d : Nat} (hcs : AllS L X d (cs_Hours_sendCousins F_Hours_goesHimself F_Hours_note F_World_charge)) (r0 : Nat) (x1 : Int32) (x2 : Int32) (t0 : okB 101 r0 = true) {o : Option Value × PH} {Q : ((Int32) ⊕ (Unit)) → MI → Prop} (qb : ∀ y I, Q (.inl y) I → At L X (d + 1) 42 8 [(101, .ref r0), (0, .int x1), (0, .int x2), (0, .int y)] [] I o) (qr : ∀ v I, Q (.inr v) I → o = (none, HH I)) (y : Int32) (I : MI) (r : (Int32) ⊕ (Unit)) (I1 : MI) (h : B_Hours_sendCousins_8 r0 x1 x2 y I = some (r, I1)) (hq : Q r I1) : At L X (d + 1) 42 8 [(101, .ref r0), (0, .int x1), (0, .int x2), (0, .int y)] [] I o := by
  refine wf_ok z_Hours_sendCousins hcs ?_ ?_ _ _ _ _ _ ⟨t0, trivial, trivial, trivial, trivial⟩ trivial (unm_refl _ _) ((congrFun (e_b_Hours_sendCousins_8 (L := L) (X := X) F_Hours_goesHimself F_Hours_note F_World_charge r0 x1 x2 y) I).trans h)
  · intro pc ls st I2 h1 h2 h3 h
    rcases mC_ok h with ⟨hb, h⟩ | ⟨_, h⟩
    · have e := Nat.eq_of_beq_eq_true hb
      subst e
      obtain ⟨hst, h⟩ := mN_ok h
      subst hst
      obtain ⟨a3, n3, h⟩ := gI_ok h
      refine at_leaf (ls2 := [(101, .ref r0), (0, .int x1), (0, .int x2), (0, .int a3)]) h3.1 ⟨Or.inr ⟨_, (h3.2 0 rfl).trans rfl⟩, Or.inr ⟨_, (h3.2 1 rfl).trans rfl⟩, Or.inr ⟨_, (h3.2 2 rfl).trans rfl⟩, Or.inr n3, trivial⟩ ?_
      cases h; exact qb _ _ hq
    cases h
  · intro v I2 _ h
    split at h
    · cases h; exact qr _ _ hq
    · cases h
def K_Hours_sendCousins_8 (r0 : Nat) (x1 : Int32) (x2 : Int32) (x3 : Int32) : M (Unit) :=
  lp (B_Hours_sendCousins_8 r0 x1 x2) FU x3
theorem s_Hours_sendCousins_8 {d : Nat} (hcs : AllS L X d (cs_Hours_sendCousins F_Hours_goesHimself F_Hours_note F_World_charge)) (r0 : Nat) (x1 : Int32) (x2 : Int32) (x3 : Int32) (t0 : okB 101 r0 = true) {o : Option Value × PH} {Q : (Unit) → MI → Prop} (q0 : ∀ v I, Q v I → o = (none, HH I)) (I : MI) (r : Unit) (I1 : MI) (h : K_Hours_sendCousins_8 r0 x1 x2 x3 I = some (r, I1)) (hq : Q r I1) : At L X (d + 1) 42 8 [(101, .ref r0), (0, .int x1), (0, .int x2), (0, .int x3)] [] I o := by
  unfold K_Hours_sendCousins_8 at h
  have w0 := fun w => at_lp (body := B_Hours_sendCousins_8 r0 x1 x2) (P := (fun (y : Int32) I => At L X (d + 1) 42 8 [(101, .ref r0), (0, .int x1), (0, .int x2), (0, .int y)] [] I o)) (Q := (fun (e : Unit) I => Q e I)) w FU x3 I r I1 h hq
  refine w0 ?_
  intro y I r I1 h hq
  exact b_Hours_sendCousins_8 hcs r0 x1 x2 t0 (Q := SQ (fun (y : Int32) I => At L X (d + 1) 42 8 [(101, .ref r0), (0, .int x1), (0, .int x2), (0, .int y)] [] I o) (fun (e : Unit) I => Q e I)) (fun _ _ w => w) q0 y I r I1 h hq
def F_Hours_sendCousins (r0 : Nat) (x1 : Int32) : M (Unit) :=
  bn (F_Hours_goesHimself r0 x1) fun v1 =>
  K_Hours_sendCousins_8 r0 x1 v1 (0 : Int32)
set_option maxRecDepth 4000 in
theorem e_s_Hours_sendCousins_0 (f_Hours_goesHimself : Nat → Int32 → M Int32) (f_Hours_note : Nat → Int32 → Int32 → Int32 → M Unit) (f_World_charge : Nat → Int32 → Int32 → M Unit) (k_8 : Nat → Int32 → Int32 → Int32 → M (Unit)) (r0 : Nat) (x1 : Int32) : wf (β := Unit) L X q_Hours_sendCousins 0 (cs_Hours_sendCousins f_Hours_goesHimself f_Hours_note f_World_charge) [2, 3] [8] (fun pc ls st => mC (Nat.beq pc 8) (mN st <| gI ls 2 fun a2 => gI ls 3 fun a3 => k_8 r0 x1 a2 a3) (fl)) (fun v => match v with | none => rt () | _ => fl) 56 0 [(101, .ref r0), (0, .int x1), (0, dV), (0, dV)] [] = (bn (f_Hours_goesHimself r0 x1) fun v1 =>
  k_8 r0 x1 v1 (0 : Int32)) := rfl
theorem s_Hours_sendCousins_0 {d : Nat} (hcs : AllS L X d (cs_Hours_sendCousins F_Hours_goesHimself F_Hours_note F_World_charge)) (r0 : Nat) (x1 : Int32) (t0 : okB 101 r0 = true) {o : Option Value × PH} {Q : (Unit) → MI → Prop} (q0 : ∀ v I, Q v I → o = (none, HH I)) (I : MI) (r : Unit) (I1 : MI) (h : F_Hours_sendCousins r0 x1 I = some (r, I1)) (hq : Q r I1) : At L X (d + 1) 42 0 [(101, .ref r0), (0, .int x1), (0, dV), (0, dV)] [] I o := by
  refine wf_ok z_Hours_sendCousins hcs ?_ ?_ _ _ _ _ _ ⟨t0, trivial, trivial, trivial, trivial⟩ trivial (unm_refl _ _) ((congrFun (e_s_Hours_sendCousins_0 (L := L) (X := X) F_Hours_goesHimself F_Hours_note F_World_charge K_Hours_sendCousins_8 r0 x1) I).trans h)
  · intro pc ls st I2 h1 h2 h3 h
    rcases mC_ok h with ⟨hb, h⟩ | ⟨_, h⟩
    · have e := Nat.eq_of_beq_eq_true hb
      subst e
      obtain ⟨hst, h⟩ := mN_ok h
      subst hst
      obtain ⟨a2, n2, h⟩ := gI_ok h
      obtain ⟨a3, n3, h⟩ := gI_ok h
      refine at_leaf (ls2 := [(101, .ref r0), (0, .int x1), (0, .int a2), (0, .int a3)]) h3.1 ⟨Or.inr ⟨_, (h3.2 0 rfl).trans rfl⟩, Or.inr ⟨_, (h3.2 1 rfl).trans rfl⟩, Or.inr n2, Or.inr n3, trivial⟩ ?_
      exact s_Hours_sendCousins_8 hcs r0 x1 a2 a3 t0 q0 _ _ _ h hq
    cases h
  · intro v I2 _ h
    split at h
    · cases h; exact q0 _ _ hq
    · cases h
theorem w_Hours_sendCousins {d : Nat} (hcs : AllS L X d (cs_Hours_sendCousins F_Hours_goesHimself F_Hours_note F_World_charge)) : Snd L X (d + 1) 42 2 (W_Hours_sendCousins F_Hours_sendCousins) := by
  refine ⟨_, z_Hours_sendCousins, rfl, fun β args k I r hty hlen h => ?_⟩
  unfold W_Hours_sendCousins at h
  split at h
  · rename_i t0 a0 u1 a1
    obtain ⟨hb0, h⟩ := mB_ok h
    have e0 := Nat.eq_of_beq_eq_true hb0
    have g0 : okB 101 a0 = true := e0 ▸ hty.1
    obtain ⟨v, I1, h1, h2⟩ := bn_some h
    refine ⟨gf_obj (c := 1) (by decide) g0, rfl, none, I1, trivial, ?_, h2⟩
    exact s_Hours_sendCousins_0 hcs a0 a1 g0 (Q := fun w I => w = v ∧ I = I1) (fun w I q => by obtain ⟨rfl, rfl⟩ := q; rfl) I v I1 h1 ⟨rfl, rfl⟩
  · cases h
theorem S_Hours_sendCousins {d : Nat} (hd : 3 ≤ d) : Snd L X d 42 2 (W_Hours_sendCousins F_Hours_sendCousins) := by
  obtain ⟨e, rfl⟩ : ∃ e, d = e + 1 := ⟨d - 1, by omega⟩
  exact w_Hours_sendCousins ⟨S_Hours_goesHimself (by omega), S_Hours_note (by omega), S_World_charge (by omega), trivial⟩
set_option maxRecDepth 100000 in
theorem z_Texts_holds : pT[41]? = some (q_Texts_holds, 3, 3, 2, 9) := rfl
def W_Texts_holds (F : Nat → Int32 → Int32 → M Int32) : CSem := fun _ args k => match args with
  | [(t0, .ref a0), (_, .int a1), (_, .int a2)] => mB (Nat.beq t0 109) <| bn (F a0 a1 a2) fun v => k (some (0, .int v))
  | _ => fl
def cs_Texts_holds (f_Table_at : Nat → Int32 → Int32 → M Int32) : List (Nat × Nat × CSem) := [(36, 3, W_Table_at f_Table_at)]
def F_Texts_holds (r0 : Nat) (x1 : Int32) (x2 : Int32) : M (Int32) :=
  bn (F_Table_at (r0 + 6) x1 (1 : Int32)) fun v1 =>
  (if x2 < v1 then
    bn (gdZ (0 : Int32)) fun _ => rt (0 : Int32)
  else
    bn (F_Table_at (r0 + 6) x1 (2 : Int32)) fun v2 =>
    (if v2 < x2 then
      bn (gdZ (0 : Int32)) fun _ => rt (0 : Int32)
    else
      bn (gdZ (1 : Int32)) fun _ => rt (1 : Int32)))
set_option maxRecDepth 4000 in
theorem e_s_Texts_holds_0 (f_Table_at : Nat → Int32 → Int32 → M Int32) (r0 : Nat) (x1 : Int32) (x2 : Int32) : wf (β := Int32) L X q_Texts_holds 2 (cs_Texts_holds f_Table_at) [] [] (fun _ _ _ => fl) (fun v => match v with | some (_, .int x) => rt x | _ => fl) 23 0 [(109, .ref r0), (0, .int x1), (0, .int x2)] [] = (bn (f_Table_at (r0 + 6) x1 (1 : Int32)) fun v1 =>
  (if x2 < v1 then
    bn (gdZ (0 : Int32)) fun _ => rt (0 : Int32)
  else
    bn (f_Table_at (r0 + 6) x1 (2 : Int32)) fun v2 =>
    (if v2 < x2 then
      bn (gdZ (0 : Int32)) fun _ => rt (0 : Int32)
    else
      bn (gdZ (1 : Int32)) fun _ => rt (1 : Int32)))) := rfl
theorem s_Texts_holds_0 {d : Nat} (hcs : AllS L X d (cs_Texts_holds F_Table_at)) (r0 : Nat) (x1 : Int32) (x2 : Int32) (t0 : okB 109 r0 = true) {o : Option Value × PH} {Q : (Int32) → MI → Prop} (q0 : ∀ v I, Q v I → o = (some (.int v), HH I)) (I : MI) (r : Int32) (I1 : MI) (h : F_Texts_holds r0 x1 x2 I = some (r, I1)) (hq : Q r I1) : At L X (d + 1) 41 0 [(109, .ref r0), (0, .int x1), (0, .int x2)] [] I o := by
  refine wf_ok z_Texts_holds hcs ?_ ?_ _ _ _ _ _ ⟨t0, trivial, trivial, trivial⟩ trivial (unm_refl _ _) ((congrFun (e_s_Texts_holds_0 (L := L) (X := X) F_Table_at r0 x1 x2) I).trans h)
  · intro pc ls st I2 h1 h2 h3 h
    cases h
  · intro v I2 _ h
    split at h
    · cases h; exact q0 _ _ hq
    · cases h
theorem w_Texts_holds {d : Nat} (hcs : AllS L X d (cs_Texts_holds F_Table_at)) : Snd L X (d + 1) 41 3 (W_Texts_holds F_Texts_holds) := by
  refine ⟨_, z_Texts_holds, rfl, fun β args k I r hty hlen h => ?_⟩
  unfold W_Texts_holds at h
  split at h
  · rename_i t0 a0 u1 a1 u2 a2
    obtain ⟨hb0, h⟩ := mB_ok h
    have e0 := Nat.eq_of_beq_eq_true hb0
    have g0 : okB 109 a0 = true := e0 ▸ hty.1
    obtain ⟨v, I1, h1, h2⟩ := bn_some h
    refine ⟨gf_obj (c := 9) (by decide) g0, rfl, some (0, .int v), I1, trivial, ?_, h2⟩
    exact s_Texts_holds_0 hcs a0 a1 a2 g0 (Q := fun w I => w = v ∧ I = I1) (fun w I q => by obtain ⟨rfl, rfl⟩ := q; rfl) I v I1 h1 ⟨rfl, rfl⟩
  · cases h
theorem S_Texts_holds {d : Nat} (hd : 2 ≤ d) : Snd L X d 41 3 (W_Texts_holds F_Texts_holds) := by
  obtain ⟨e, rfl⟩ : ∃ e, d = e + 1 := ⟨d - 1, by omega⟩
  exact w_Texts_holds ⟨S_Table_at (by omega), trivial⟩
set_option maxRecDepth 100000 in
theorem z_Hours_shareOut : pT[40]? = some (q_Hours_shareOut, 2, 5, 0, 1) := rfl
def W_Hours_shareOut (F : Nat → Int32 → M Unit) : CSem := fun _ args k => match args with
  | [(t0, .ref a0), (_, .int a1)] => mB (Nat.beq t0 101) <| bn (F a0 a1) fun _ => k none
  | _ => fl
def cs_Hours_shareOut (f_Table_at : Nat → Int32 → Int32 → M Int32) (f_Texts_holds : Nat → Int32 → Int32 → M Int32) (f_World_lieDown : Nat → Int32 → M Unit) (f_World_walkOut : Nat → Int32 → Int32 → M Unit) : List (Nat × Nat × CSem) := [(36, 3, W_Table_at f_Table_at), (41, 3, W_Texts_holds f_Texts_holds), (30, 2, W_World_lieDown f_World_lieDown), (29, 3, W_World_walkOut f_World_walkOut)]
def B_Hours_shareOut_16 (r0 : Nat) (x1 : Int32) (y : Int32 × Int32) : M ((Int32 × Int32) ⊕ ((Int32) ⊕ Unit)) :=
  bn (rd 21 3) fun v1 =>
  (if y.2 < v1 then
    bn (F_Table_at 21 y.2 (0 : Int32)) fun v2 =>
    (if v2 = x1 then
      bn (rd (hw r0) 4) fun v3 =>
      bn (F_Texts_holds 15 y.2 v3) fun v4 =>
      (if v4 = 0 then
        rt (.inl ((1 : Int32), (y.2 + (1 : Int32))))
      else
        bn (F_Table_at 21 y.2 (3 : Int32)) fun v5 =>
        bn (F_World_walkOut (hw r0) x1 v5) fun _ =>
        rt (.inr (.inr ())))
    else
      rt (.inl (y.1, (y.2 + (1 : Int32)))))
  else
    rt (.inr (.inl y.1)))
set_option maxRecDepth 4000 in
theorem e_b_Hours_shareOut_16 (f_Table_at : Nat → Int32 → Int32 → M Int32) (f_Texts_holds : Nat → Int32 → Int32 → M Int32) (f_World_lieDown : Nat → Int32 → M Unit) (f_World_walkOut : Nat → Int32 → Int32 → M Unit) (r0 : Nat) (x1 : Int32) (y : Int32 × Int32) : wf (β := (Int32 × Int32) ⊕ ((Int32) ⊕ Unit)) L X q_Hours_shareOut 0 (cs_Hours_shareOut f_Table_at f_Texts_holds f_World_lieDown f_World_walkOut) [3, 4] [16, 82] (fun pc ls st => mC (Nat.beq pc 16) (mN st <| gI ls 3 fun a3 => gI ls 4 fun a4 => rt (.inl (a3, a4))) (mC (Nat.beq pc 82) (mN st <| gD ls 2 <| gI ls 3 fun a3 => gD ls 4 <| rt (.inr (.inl a3))) (fl))) (fun v => match v with | none => rt (.inr (.inr ())) | _ => fl) 53 16 [(101, .ref r0), (0, .int x1), (108, .ref 21), (0, .int y.1), (0, .int y.2)] [] = (bn (rd 21 3) fun v1 =>
  (if y.2 < v1 then
    bn (f_Table_at 21 y.2 (0 : Int32)) fun v2 =>
    (if v2 = x1 then
      bn (rd (hw r0) 4) fun v3 =>
      bn (f_Texts_holds 15 y.2 v3) fun v4 =>
      (if v4 = 0 then
        rt (.inl ((1 : Int32), (y.2 + (1 : Int32))))
      else
        bn (f_Table_at 21 y.2 (3 : Int32)) fun v5 =>
        bn (f_World_walkOut (hw r0) x1 v5) fun _ =>
        rt (.inr (.inr ())))
    else
      rt (.inl (y.1, (y.2 + (1 : Int32)))))
  else
    rt (.inr (.inl y.1)))) := rfl
theorem b_Hours_shareOut_16 {d : Nat} (hcs : AllS L X d (cs_Hours_shareOut F_Table_at F_Texts_holds F_World_lieDown F_World_walkOut)) (r0 : Nat) (x1 : Int32) (t0 : okB 101 r0 = true) {o : Option Value × PH} {Q : ((Int32 × Int32) ⊕ ((Int32) ⊕ Unit)) → MI → Prop} (qb : ∀ y I, Q (.inl y) I → At L X (d + 1) 40 16 [(101, .ref r0), (0, .int x1), (108, .ref 21), (0, .int y.1), (0, .int y.2)] [] I o) (qe82 : ∀ y I, Q (.inr (.inl y)) I → At L X (d + 1) 40 82 [(101, .ref r0), (0, .int x1), (0, dV), (0, .int y), (0, dV)] [] I o) (qr : ∀ v I, Q (.inr (.inr v)) I → o = (none, HH I)) (y : Int32 × Int32) (I : MI) (r : (Int32 × Int32) ⊕ ((Int32) ⊕ Unit)) (I1 : MI) (h : B_Hours_shareOut_16 r0 x1 y I = some (r, I1)) (hq : Q r I1) : At L X (d + 1) 40 16 [(101, .ref r0), (0, .int x1), (108, .ref 21), (0, .int y.1), (0, .int y.2)] [] I o := by
  refine wf_ok z_Hours_shareOut hcs ?_ ?_ _ _ _ _ _ ⟨t0, trivial, rfl, trivial, trivial, trivial⟩ trivial (unm_refl _ _) ((congrFun (e_b_Hours_shareOut_16 (L := L) (X := X) F_Table_at F_Texts_holds F_World_lieDown F_World_walkOut r0 x1 y) I).trans h)
  · intro pc ls st I2 h1 h2 h3 h
    rcases mC_ok h with ⟨hb, h⟩ | ⟨_, h⟩
    · have e := Nat.eq_of_beq_eq_true hb
      subst e
      obtain ⟨hst, h⟩ := mN_ok h
      subst hst
      obtain ⟨a3, n3, h⟩ := gI_ok h
      obtain ⟨a4, n4, h⟩ := gI_ok h
      refine at_leaf (ls2 := [(101, .ref r0), (0, .int x1), (108, .ref 21), (0, .int a3), (0, .int a4)]) h3.1 ⟨Or.inr ⟨_, (h3.2 0 rfl).trans rfl⟩, Or.inr ⟨_, (h3.2 1 rfl).trans rfl⟩, Or.inr ⟨_, (h3.2 2 rfl).trans rfl⟩, Or.inr n3, Or.inr n4, trivial⟩ ?_
      cases h; exact qb _ _ hq
    rcases mC_ok h with ⟨hb, h⟩ | ⟨_, h⟩
    · have e := Nat.eq_of_beq_eq_true hb
      subst e
      obtain ⟨hst, h⟩ := mN_ok h
      subst hst
      obtain ⟨n2, h⟩ := gD_ok h
      obtain ⟨a3, n3, h⟩ := gI_ok h
      obtain ⟨n4, h⟩ := gD_ok h
      refine at_leaf (ls2 := [(101, .ref r0), (0, .int x1), (0, dV), (0, .int a3), (0, dV)]) h3.1 ⟨Or.inr ⟨_, (h3.2 0 rfl).trans rfl⟩, Or.inr ⟨_, (h3.2 1 rfl).trans rfl⟩, Or.inl ⟨rfl, n2⟩, Or.inr n3, Or.inl ⟨rfl, n4⟩, trivial⟩ ?_
      cases h; exact qe82 _ _ hq
    cases h
  · intro v I2 _ h
    split at h
    · cases h; exact qr _ _ hq
    · cases h
def K_Hours_shareOut_82 (r0 : Nat) (x1 : Int32) (x3 : Int32) : M (Unit) :=
  (if x3 = 0 then
    rt ()
  else
    bn (F_World_lieDown (hw r0) x1) fun _ =>
    rt ())
set_option maxRecDepth 4000 in
theorem e_s_Hours_shareOut_82 (f_Table_at : Nat → Int32 → Int32 → M Int32) (f_Texts_holds : Nat → Int32 → Int32 → M Int32) (f_World_lieDown : Nat → Int32 → M Unit) (f_World_walkOut : Nat → Int32 → Int32 → M Unit) (r0 : Nat) (x1 : Int32) (x3 : Int32) : wf (β := Unit) L X q_Hours_shareOut 0 (cs_Hours_shareOut f_Table_at f_Texts_holds f_World_lieDown f_World_walkOut) [] [16, 82] (fun _ _ _ => fl) (fun v => match v with | none => rt () | _ => fl) 53 82 [(101, .ref r0), (0, .int x1), (0, dV), (0, .int x3), (0, dV)] [] = ((if x3 = 0 then
    rt ()
  else
    bn (f_World_lieDown (hw r0) x1) fun _ =>
    rt ())) := rfl
theorem s_Hours_shareOut_82 {d : Nat} (hcs : AllS L X d (cs_Hours_shareOut F_Table_at F_Texts_holds F_World_lieDown F_World_walkOut)) (r0 : Nat) (x1 : Int32) (x3 : Int32) (t0 : okB 101 r0 = true) {o : Option Value × PH} {Q : (Unit) → MI → Prop} (q0 : ∀ v I, Q v I → o = (none, HH I)) (I : MI) (r : Unit) (I1 : MI) (h : K_Hours_shareOut_82 r0 x1 x3 I = some (r, I1)) (hq : Q r I1) : At L X (d + 1) 40 82 [(101, .ref r0), (0, .int x1), (0, dV), (0, .int x3), (0, dV)] [] I o := by
  refine wf_ok z_Hours_shareOut hcs ?_ ?_ _ _ _ _ _ ⟨t0, trivial, trivial, trivial, trivial, trivial⟩ trivial (unm_refl _ _) ((congrFun (e_s_Hours_shareOut_82 (L := L) (X := X) F_Table_at F_Texts_holds F_World_lieDown F_World_walkOut r0 x1 x3) I).trans h)
  · intro pc ls st I2 h1 h2 h3 h
    cases h
  · intro v I2 _ h
    split at h
    · cases h; exact q0 _ _ hq
    · cases h
def K_Hours_shareOut_16 (r0 : Nat) (x1 : Int32) (x3 : Int32) (x4 : Int32) : M (Unit) :=
  bn (lp (B_Hours_shareOut_16 r0 x1) FU (x3, x4)) fun e => match e with
  | .inl e => K_Hours_shareOut_82 r0 x1 e
  | .inr e => rt e
theorem s_Hours_shareOut_16 {d : Nat} (hcs : AllS L X d (cs_Hours_shareOut F_Table_at F_Texts_holds F_World_lieDown F_World_walkOut)) (r0 : Nat) (x1 : Int32) (x3 : Int32) (x4 : Int32) (t0 : okB 101 r0 = true) {o : Option Value × PH} {Q : (Unit) → MI → Prop} (q0 : ∀ v I, Q v I → o = (none, HH I)) (I : MI) (r : Unit) (I1 : MI) (h : K_Hours_shareOut_16 r0 x1 x3 x4 I = some (r, I1)) (hq : Q r I1) : At L X (d + 1) 40 16 [(101, .ref r0), (0, .int x1), (108, .ref 21), (0, .int x3), (0, .int x4)] [] I o := by
  unfold K_Hours_shareOut_16 at h
  obtain ⟨e, I2, h1, h2⟩ := bn_some h
  have w0 := fun w => at_lp (body := B_Hours_shareOut_16 r0 x1) (P := (fun (y : Int32 × Int32) I => At L X (d + 1) 40 16 [(101, .ref r0), (0, .int x1), (108, .ref 21), (0, .int y.1), (0, .int y.2)] [] I o)) (Q := (fun (e : (Int32) ⊕ Unit) I => (match e with | .inl e => K_Hours_shareOut_82 r0 x1 e | .inr e => rt e : M (Unit)) I = some (r, I1))) w FU (x3, x4) I e I2 h1 h2
  refine w0 ?_
  intro y I r2 I3 h hq2
  exact b_Hours_shareOut_16 hcs r0 x1 t0 (Q := SQ (fun (y : Int32 × Int32) I => At L X (d + 1) 40 16 [(101, .ref r0), (0, .int x1), (108, .ref 21), (0, .int y.1), (0, .int y.2)] [] I o) (fun (e : (Int32) ⊕ Unit) I => (match e with | .inl e => K_Hours_shareOut_82 r0 x1 e | .inr e => rt e : M (Unit)) I = some (r, I1))) (fun _ _ w => w) (fun y I w => s_Hours_shareOut_82 hcs r0 x1 y t0 q0 _ _ _ w hq) (fun v I w => by cases w; exact q0 _ _ hq) y I r2 I3 h hq2
def F_Hours_shareOut (r0 : Nat) (x1 : Int32) : M (Unit) :=
  K_Hours_shareOut_16 r0 x1 (0 : Int32) (0 : Int32)
set_option maxRecDepth 4000 in
theorem e_s_Hours_shareOut_0 (f_Table_at : Nat → Int32 → Int32 → M Int32) (f_Texts_holds : Nat → Int32 → Int32 → M Int32) (f_World_lieDown : Nat → Int32 → M Unit) (f_World_walkOut : Nat → Int32 → Int32 → M Unit) (k_16 : Nat → Int32 → Int32 → Int32 → M (Unit)) (r0 : Nat) (x1 : Int32) : wf (β := Unit) L X q_Hours_shareOut 0 (cs_Hours_shareOut f_Table_at f_Texts_holds f_World_lieDown f_World_walkOut) [2, 3, 4] [16, 82] (fun pc ls st => mC (Nat.beq pc 16) (mN st <| gC ls 2 108 21 <| gI ls 3 fun a3 => gI ls 4 fun a4 => k_16 r0 x1 a3 a4) (fl)) (fun v => match v with | none => rt () | _ => fl) 53 0 [(101, .ref r0), (0, .int x1), (0, dV), (0, dV), (0, dV)] [] = (k_16 r0 x1 (0 : Int32) (0 : Int32)) := rfl
theorem s_Hours_shareOut_0 {d : Nat} (hcs : AllS L X d (cs_Hours_shareOut F_Table_at F_Texts_holds F_World_lieDown F_World_walkOut)) (r0 : Nat) (x1 : Int32) (t0 : okB 101 r0 = true) {o : Option Value × PH} {Q : (Unit) → MI → Prop} (q0 : ∀ v I, Q v I → o = (none, HH I)) (I : MI) (r : Unit) (I1 : MI) (h : F_Hours_shareOut r0 x1 I = some (r, I1)) (hq : Q r I1) : At L X (d + 1) 40 0 [(101, .ref r0), (0, .int x1), (0, dV), (0, dV), (0, dV)] [] I o := by
  refine wf_ok z_Hours_shareOut hcs ?_ ?_ _ _ _ _ _ ⟨t0, trivial, trivial, trivial, trivial, trivial⟩ trivial (unm_refl _ _) ((congrFun (e_s_Hours_shareOut_0 (L := L) (X := X) F_Table_at F_Texts_holds F_World_lieDown F_World_walkOut K_Hours_shareOut_16 r0 x1) I).trans h)
  · intro pc ls st I2 h1 h2 h3 h
    rcases mC_ok h with ⟨hb, h⟩ | ⟨_, h⟩
    · have e := Nat.eq_of_beq_eq_true hb
      subst e
      obtain ⟨hst, h⟩ := mN_ok h
      subst hst
      obtain ⟨n2, h⟩ := gC_ok h
      obtain ⟨a3, n3, h⟩ := gI_ok h
      obtain ⟨a4, n4, h⟩ := gI_ok h
      refine at_leaf (ls2 := [(101, .ref r0), (0, .int x1), (108, .ref 21), (0, .int a3), (0, .int a4)]) h3.1 ⟨Or.inr ⟨_, (h3.2 0 rfl).trans rfl⟩, Or.inr ⟨_, (h3.2 1 rfl).trans rfl⟩, Or.inr n2, Or.inr n3, Or.inr n4, trivial⟩ ?_
      exact s_Hours_shareOut_16 hcs r0 x1 a3 a4 t0 q0 _ _ _ h hq
    cases h
  · intro v I2 _ h
    split at h
    · cases h; exact q0 _ _ hq
    · cases h
theorem w_Hours_shareOut {d : Nat} (hcs : AllS L X d (cs_Hours_shareOut F_Table_at F_Texts_holds F_World_lieDown F_World_walkOut)) : Snd L X (d + 1) 40 2 (W_Hours_shareOut F_Hours_shareOut) := by
  refine ⟨_, z_Hours_shareOut, rfl, fun β args k I r hty hlen h => ?_⟩
  unfold W_Hours_shareOut at h
  split at h
  · rename_i t0 a0 u1 a1
    obtain ⟨hb0, h⟩ := mB_ok h
    have e0 := Nat.eq_of_beq_eq_true hb0
    have g0 : okB 101 a0 = true := e0 ▸ hty.1
    obtain ⟨v, I1, h1, h2⟩ := bn_some h
    refine ⟨gf_obj (c := 1) (by decide) g0, rfl, none, I1, trivial, ?_, h2⟩
    exact s_Hours_shareOut_0 hcs a0 a1 g0 (Q := fun w I => w = v ∧ I = I1) (fun w I q => by obtain ⟨rfl, rfl⟩ := q; rfl) I v I1 h1 ⟨rfl, rfl⟩
  · cases h
theorem S_Hours_shareOut {d : Nat} (hd : 3 ≤ d) : Snd L X d 40 2 (W_Hours_shareOut F_Hours_shareOut) := by
  obtain ⟨e, rfl⟩ : ∃ e, d = e + 1 := ⟨d - 1, by omega⟩
  exact w_Hours_shareOut ⟨S_Table_at (by omega), S_Texts_holds (by omega), S_World_lieDown (by omega), S_World_walkOut (by omega), trivial⟩
set_option maxRecDepth 100000 in
theorem z_Hours_share : pT[39]? = some (q_Hours_share, 1, 2, 0, 1) := rfl
def W_Hours_share (F : Nat → M Unit) : CSem := fun _ args k => match args with
  | [(t0, .ref a0)] => mB (Nat.beq t0 101) <| bn (F a0) fun _ => k none
  | _ => fl
def cs_Hours_share (f_Hours_shareOut : Nat → Int32 → M Unit) : List (Nat × Nat × CSem) := [(40, 2, W_Hours_shareOut f_Hours_shareOut)]
def B_Hours_share_2 (r0 : Nat) (y : Int32) : M ((Int32) ⊕ (Unit)) :=
  bn (rd (hw r0) 8) fun v1 =>
  (if y < v1 then
    bn (ld 18 ((hw r0) + 10) y) fun v2 =>
    (if v2 = 0 then
      bn (F_Hours_shareOut r0 y) fun _ =>
      rt (.inl (y + (1 : Int32)))
    else
      rt (.inl (y + (1 : Int32))))
  else
    rt (.inr ()))
set_option maxRecDepth 4000 in
theorem e_b_Hours_share_2 (f_Hours_shareOut : Nat → Int32 → M Unit) (r0 : Nat) (y : Int32) : wf (β := (Int32) ⊕ (Unit)) L X q_Hours_share 0 (cs_Hours_share f_Hours_shareOut) [1] [2] (fun pc ls st => mC (Nat.beq pc 2) (mN st <| gI ls 1 fun a1 => rt (.inl a1)) (fl)) (fun v => match v with | none => rt (.inr ()) | _ => fl) 24 2 [(101, .ref r0), (0, .int y)] [] = (bn (rd (hw r0) 8) fun v1 =>
  (if y < v1 then
    bn (ld 18 ((hw r0) + 10) y) fun v2 =>
    (if v2 = 0 then
      bn (f_Hours_shareOut r0 y) fun _ =>
      rt (.inl (y + (1 : Int32)))
    else
      rt (.inl (y + (1 : Int32))))
  else
    rt (.inr ()))) := rfl
theorem b_Hours_share_2 {d : Nat} (hcs : AllS L X d (cs_Hours_share F_Hours_shareOut)) (r0 : Nat) (t0 : okB 101 r0 = true) {o : Option Value × PH} {Q : ((Int32) ⊕ (Unit)) → MI → Prop} (qb : ∀ y I, Q (.inl y) I → At L X (d + 1) 39 2 [(101, .ref r0), (0, .int y)] [] I o) (qr : ∀ v I, Q (.inr v) I → o = (none, HH I)) (y : Int32) (I : MI) (r : (Int32) ⊕ (Unit)) (I1 : MI) (h : B_Hours_share_2 r0 y I = some (r, I1)) (hq : Q r I1) : At L X (d + 1) 39 2 [(101, .ref r0), (0, .int y)] [] I o := by
  refine wf_ok z_Hours_share hcs ?_ ?_ _ _ _ _ _ ⟨t0, trivial, trivial⟩ trivial (unm_refl _ _) ((congrFun (e_b_Hours_share_2 (L := L) (X := X) F_Hours_shareOut r0 y) I).trans h)
  · intro pc ls st I2 h1 h2 h3 h
    rcases mC_ok h with ⟨hb, h⟩ | ⟨_, h⟩
    · have e := Nat.eq_of_beq_eq_true hb
      subst e
      obtain ⟨hst, h⟩ := mN_ok h
      subst hst
      obtain ⟨a1, n1, h⟩ := gI_ok h
      refine at_leaf (ls2 := [(101, .ref r0), (0, .int a1)]) h3.1 ⟨Or.inr ⟨_, (h3.2 0 rfl).trans rfl⟩, Or.inr n1, trivial⟩ ?_
      cases h; exact qb _ _ hq
    cases h
  · intro v I2 _ h
    split at h
    · cases h; exact qr _ _ hq
    · cases h
def K_Hours_share_2 (r0 : Nat) (x1 : Int32) : M (Unit) :=
  lp (B_Hours_share_2 r0) FU x1
theorem s_Hours_share_2 {d : Nat} (hcs : AllS L X d (cs_Hours_share F_Hours_shareOut)) (r0 : Nat) (x1 : Int32) (t0 : okB 101 r0 = true) {o : Option Value × PH} {Q : (Unit) → MI → Prop} (q0 : ∀ v I, Q v I → o = (none, HH I)) (I : MI) (r : Unit) (I1 : MI) (h : K_Hours_share_2 r0 x1 I = some (r, I1)) (hq : Q r I1) : At L X (d + 1) 39 2 [(101, .ref r0), (0, .int x1)] [] I o := by
  unfold K_Hours_share_2 at h
  have w0 := fun w => at_lp (body := B_Hours_share_2 r0) (P := (fun (y : Int32) I => At L X (d + 1) 39 2 [(101, .ref r0), (0, .int y)] [] I o)) (Q := (fun (e : Unit) I => Q e I)) w FU x1 I r I1 h hq
  refine w0 ?_
  intro y I r I1 h hq
  exact b_Hours_share_2 hcs r0 t0 (Q := SQ (fun (y : Int32) I => At L X (d + 1) 39 2 [(101, .ref r0), (0, .int y)] [] I o) (fun (e : Unit) I => Q e I)) (fun _ _ w => w) q0 y I r I1 h hq
def F_Hours_share (r0 : Nat) : M (Unit) :=
  K_Hours_share_2 r0 (0 : Int32)
set_option maxRecDepth 4000 in
theorem e_s_Hours_share_0 (f_Hours_shareOut : Nat → Int32 → M Unit) (k_2 : Nat → Int32 → M (Unit)) (r0 : Nat) : wf (β := Unit) L X q_Hours_share 0 (cs_Hours_share f_Hours_shareOut) [1] [2] (fun pc ls st => mC (Nat.beq pc 2) (mN st <| gI ls 1 fun a1 => k_2 r0 a1) (fl)) (fun v => match v with | none => rt () | _ => fl) 24 0 [(101, .ref r0), (0, dV)] [] = (k_2 r0 (0 : Int32)) := rfl
theorem s_Hours_share_0 {d : Nat} (hcs : AllS L X d (cs_Hours_share F_Hours_shareOut)) (r0 : Nat) (t0 : okB 101 r0 = true) {o : Option Value × PH} {Q : (Unit) → MI → Prop} (q0 : ∀ v I, Q v I → o = (none, HH I)) (I : MI) (r : Unit) (I1 : MI) (h : F_Hours_share r0 I = some (r, I1)) (hq : Q r I1) : At L X (d + 1) 39 0 [(101, .ref r0), (0, dV)] [] I o := by
  refine wf_ok z_Hours_share hcs ?_ ?_ _ _ _ _ _ ⟨t0, trivial, trivial⟩ trivial (unm_refl _ _) ((congrFun (e_s_Hours_share_0 (L := L) (X := X) F_Hours_shareOut K_Hours_share_2 r0) I).trans h)
  · intro pc ls st I2 h1 h2 h3 h
    rcases mC_ok h with ⟨hb, h⟩ | ⟨_, h⟩
    · have e := Nat.eq_of_beq_eq_true hb
      subst e
      obtain ⟨hst, h⟩ := mN_ok h
      subst hst
      obtain ⟨a1, n1, h⟩ := gI_ok h
      refine at_leaf (ls2 := [(101, .ref r0), (0, .int a1)]) h3.1 ⟨Or.inr ⟨_, (h3.2 0 rfl).trans rfl⟩, Or.inr n1, trivial⟩ ?_
      exact s_Hours_share_2 hcs r0 a1 t0 q0 _ _ _ h hq
    cases h
  · intro v I2 _ h
    split at h
    · cases h; exact q0 _ _ hq
    · cases h
theorem w_Hours_share {d : Nat} (hcs : AllS L X d (cs_Hours_share F_Hours_shareOut)) : Snd L X (d + 1) 39 1 (W_Hours_share F_Hours_share) := by
  refine ⟨_, z_Hours_share, rfl, fun β args k I r hty hlen h => ?_⟩
  unfold W_Hours_share at h
  split at h
  · rename_i t0 a0
    obtain ⟨hb0, h⟩ := mB_ok h
    have e0 := Nat.eq_of_beq_eq_true hb0
    have g0 : okB 101 a0 = true := e0 ▸ hty.1
    obtain ⟨v, I1, h1, h2⟩ := bn_some h
    refine ⟨gf_obj (c := 1) (by decide) g0, rfl, none, I1, trivial, ?_, h2⟩
    exact s_Hours_share_0 hcs a0 g0 (Q := fun w I => w = v ∧ I = I1) (fun w I q => by obtain ⟨rfl, rfl⟩ := q; rfl) I v I1 h1 ⟨rfl, rfl⟩
  · cases h
theorem S_Hours_share {d : Nat} (hd : 4 ≤ d) : Snd L X d 39 1 (W_Hours_share F_Hours_share) := by
  obtain ⟨e, rfl⟩ : ∃ e, d = e + 1 := ⟨d - 1, by omega⟩
  exact w_Hours_share ⟨S_Hours_shareOut (by omega), trivial⟩
set_option maxRecDepth 100000 in
theorem z_Hours_strikeOff : pT[60]? = some (q_Hours_strikeOff, 1, 2, 0, 1) := rfl
def W_Hours_strikeOff (F : Nat → M Unit) : CSem := fun _ args k => match args with
  | [(t0, .ref a0)] => mB (Nat.beq t0 101) <| bn (F a0) fun _ => k none
  | _ => fl
def cs_Hours_strikeOff (f_Hours_note : Nat → Int32 → Int32 → Int32 → M Unit) (f_World_lieDown : Nat → Int32 → M Unit) : List (Nat × Nat × CSem) := [(45, 4, W_Hours_note f_Hours_note), (30, 2, W_World_lieDown f_World_lieDown)]
def B_Hours_strikeOff_2 (r0 : Nat) (y : Int32) : M ((Int32) ⊕ (Unit)) :=
  bn (rd (hw r0) 8) fun v1 =>
  (if y < v1 then
    bn (ld 18 ((hw r0) + 10) y) fun v2 =>
    (if v2 = 0 then
      bn (ld 18 ((hw r0) + 9) y) fun v3 =>
      (if (50 : Int32) < v3 then
        bn (sr 18 ((hw r0) + 10) y (1 : Int32)) fun _ =>
        bn (F_World_lieDown (hw r0) y) fun _ =>
        bn (rd (hw r0) 3) fun v4 =>
        bn (wr (hw r0) 3 (v4 + (1 : Int32))) fun _ =>
        bn (ld 18 ((hw r0) + 9) y) fun v5 =>
        bn (F_Hours_note r0 (3 : Int32) y v5) fun _ =>
        rt (.inl (y + (1 : Int32)))
      else
        rt (.inl (y + (1 : Int32))))
    else
      rt (.inl (y + (1 : Int32))))
  else
    rt (.inr ()))
set_option maxRecDepth 4000 in
theorem e_b_Hours_strikeOff_2 (f_Hours_note : Nat → Int32 → Int32 → Int32 → M Unit) (f_World_lieDown : Nat → Int32 → M Unit) (r0 : Nat) (y : Int32) : wf (β := (Int32) ⊕ (Unit)) L X q_Hours_strikeOff 0 (cs_Hours_strikeOff f_Hours_note f_World_lieDown) [1] [2] (fun pc ls st => mC (Nat.beq pc 2) (mN st <| gI ls 1 fun a1 => rt (.inl a1)) (fl)) (fun v => match v with | none => rt (.inr ()) | _ => fl) 54 2 [(101, .ref r0), (0, .int y)] [] = (bn (rd (hw r0) 8) fun v1 =>
  (if y < v1 then
    bn (ld 18 ((hw r0) + 10) y) fun v2 =>
    (if v2 = 0 then
      bn (ld 18 ((hw r0) + 9) y) fun v3 =>
      (if (50 : Int32) < v3 then
        bn (sr 18 ((hw r0) + 10) y (1 : Int32)) fun _ =>
        bn (f_World_lieDown (hw r0) y) fun _ =>
        bn (rd (hw r0) 3) fun v4 =>
        bn (wr (hw r0) 3 (v4 + (1 : Int32))) fun _ =>
        bn (ld 18 ((hw r0) + 9) y) fun v5 =>
        bn (f_Hours_note r0 (3 : Int32) y v5) fun _ =>
        rt (.inl (y + (1 : Int32)))
      else
        rt (.inl (y + (1 : Int32))))
    else
      rt (.inl (y + (1 : Int32))))
  else
    rt (.inr ()))) := rfl
theorem b_Hours_strikeOff_2 {d : Nat} (hcs : AllS L X d (cs_Hours_strikeOff F_Hours_note F_World_lieDown)) (r0 : Nat) (t0 : okB 101 r0 = true) {o : Option Value × PH} {Q : ((Int32) ⊕ (Unit)) → MI → Prop} (qb : ∀ y I, Q (.inl y) I → At L X (d + 1) 60 2 [(101, .ref r0), (0, .int y)] [] I o) (qr : ∀ v I, Q (.inr v) I → o = (none, HH I)) (y : Int32) (I : MI) (r : (Int32) ⊕ (Unit)) (I1 : MI) (h : B_Hours_strikeOff_2 r0 y I = some (r, I1)) (hq : Q r I1) : At L X (d + 1) 60 2 [(101, .ref r0), (0, .int y)] [] I o := by
  refine wf_ok z_Hours_strikeOff hcs ?_ ?_ _ _ _ _ _ ⟨t0, trivial, trivial⟩ trivial (unm_refl _ _) ((congrFun (e_b_Hours_strikeOff_2 (L := L) (X := X) F_Hours_note F_World_lieDown r0 y) I).trans h)
  · intro pc ls st I2 h1 h2 h3 h
    rcases mC_ok h with ⟨hb, h⟩ | ⟨_, h⟩
    · have e := Nat.eq_of_beq_eq_true hb
      subst e
      obtain ⟨hst, h⟩ := mN_ok h
      subst hst
      obtain ⟨a1, n1, h⟩ := gI_ok h
      refine at_leaf (ls2 := [(101, .ref r0), (0, .int a1)]) h3.1 ⟨Or.inr ⟨_, (h3.2 0 rfl).trans rfl⟩, Or.inr n1, trivial⟩ ?_
      cases h; exact qb _ _ hq
    cases h
  · intro v I2 _ h
    split at h
    · cases h; exact qr _ _ hq
    · cases h
def K_Hours_strikeOff_2 (r0 : Nat) (x1 : Int32) : M (Unit) :=
  lp (B_Hours_strikeOff_2 r0) FU x1
theorem s_Hours_strikeOff_2 {d : Nat} (hcs : AllS L X d (cs_Hours_strikeOff F_Hours_note F_World_lieDown)) (r0 : Nat) (x1 : Int32) (t0 : okB 101 r0 = true) {o : Option Value × PH} {Q : (Unit) → MI → Prop} (q0 : ∀ v I, Q v I → o = (none, HH I)) (I : MI) (r : Unit) (I1 : MI) (h : K_Hours_strikeOff_2 r0 x1 I = some (r, I1)) (hq : Q r I1) : At L X (d + 1) 60 2 [(101, .ref r0), (0, .int x1)] [] I o := by
  unfold K_Hours_strikeOff_2 at h
  have w0 := fun w => at_lp (body := B_Hours_strikeOff_2 r0) (P := (fun (y : Int32) I => At L X (d + 1) 60 2 [(101, .ref r0), (0, .int y)] [] I o)) (Q := (fun (e : Unit) I => Q e I)) w FU x1 I r I1 h hq
  refine w0 ?_
  intro y I r I1 h hq
  exact b_Hours_strikeOff_2 hcs r0 t0 (Q := SQ (fun (y : Int32) I => At L X (d + 1) 60 2 [(101, .ref r0), (0, .int y)] [] I o) (fun (e : Unit) I => Q e I)) (fun _ _ w => w) q0 y I r I1 h hq
def F_Hours_strikeOff (r0 : Nat) : M (Unit) :=
  K_Hours_strikeOff_2 r0 (0 : Int32)
set_option maxRecDepth 4000 in
theorem e_s_Hours_strikeOff_0 (f_Hours_note : Nat → Int32 → Int32 → Int32 → M Unit) (f_World_lieDown : Nat → Int32 → M Unit) (k_2 : Nat → Int32 → M (Unit)) (r0 : Nat) : wf (β := Unit) L X q_Hours_strikeOff 0 (cs_Hours_strikeOff f_Hours_note f_World_lieDown) [1] [2] (fun pc ls st => mC (Nat.beq pc 2) (mN st <| gI ls 1 fun a1 => k_2 r0 a1) (fl)) (fun v => match v with | none => rt () | _ => fl) 54 0 [(101, .ref r0), (0, dV)] [] = (k_2 r0 (0 : Int32)) := rfl
theorem s_Hours_strikeOff_0 {d : Nat} (hcs : AllS L X d (cs_Hours_strikeOff F_Hours_note F_World_lieDown)) (r0 : Nat) (t0 : okB 101 r0 = true) {o : Option Value × PH} {Q : (Unit) → MI → Prop} (q0 : ∀ v I, Q v I → o = (none, HH I)) (I : MI) (r : Unit) (I1 : MI) (h : F_Hours_strikeOff r0 I = some (r, I1)) (hq : Q r I1) : At L X (d + 1) 60 0 [(101, .ref r0), (0, dV)] [] I o := by
  refine wf_ok z_Hours_strikeOff hcs ?_ ?_ _ _ _ _ _ ⟨t0, trivial, trivial⟩ trivial (unm_refl _ _) ((congrFun (e_s_Hours_strikeOff_0 (L := L) (X := X) F_Hours_note F_World_lieDown K_Hours_strikeOff_2 r0) I).trans h)
  · intro pc ls st I2 h1 h2 h3 h
    rcases mC_ok h with ⟨hb, h⟩ | ⟨_, h⟩
    · have e := Nat.eq_of_beq_eq_true hb
      subst e
      obtain ⟨hst, h⟩ := mN_ok h
      subst hst
      obtain ⟨a1, n1, h⟩ := gI_ok h
      refine at_leaf (ls2 := [(101, .ref r0), (0, .int a1)]) h3.1 ⟨Or.inr ⟨_, (h3.2 0 rfl).trans rfl⟩, Or.inr n1, trivial⟩ ?_
      exact s_Hours_strikeOff_2 hcs r0 a1 t0 q0 _ _ _ h hq
    cases h
  · intro v I2 _ h
    split at h
    · cases h; exact q0 _ _ hq
    · cases h
theorem w_Hours_strikeOff {d : Nat} (hcs : AllS L X d (cs_Hours_strikeOff F_Hours_note F_World_lieDown)) : Snd L X (d + 1) 60 1 (W_Hours_strikeOff F_Hours_strikeOff) := by
  refine ⟨_, z_Hours_strikeOff, rfl, fun β args k I r hty hlen h => ?_⟩
  unfold W_Hours_strikeOff at h
  split at h
  · rename_i t0 a0
    obtain ⟨hb0, h⟩ := mB_ok h
    have e0 := Nat.eq_of_beq_eq_true hb0
    have g0 : okB 101 a0 = true := e0 ▸ hty.1
    obtain ⟨v, I1, h1, h2⟩ := bn_some h
    refine ⟨gf_obj (c := 1) (by decide) g0, rfl, none, I1, trivial, ?_, h2⟩
    exact s_Hours_strikeOff_0 hcs a0 g0 (Q := fun w I => w = v ∧ I = I1) (fun w I q => by obtain ⟨rfl, rfl⟩ := q; rfl) I v I1 h1 ⟨rfl, rfl⟩
  · cases h
theorem S_Hours_strikeOff {d : Nat} (hd : 3 ≤ d) : Snd L X d 60 1 (W_Hours_strikeOff F_Hours_strikeOff) := by
  obtain ⟨e, rfl⟩ : ∃ e, d = e + 1 := ⟨d - 1, by omega⟩
  exact w_Hours_strikeOff ⟨S_Hours_note (by omega), S_World_lieDown (by omega), trivial⟩
set_option maxRecDepth 100000 in
theorem z_Hours_turn : pT[61]? = some (q_Hours_turn, 1, 2, 0, 1) := rfl
def W_Hours_turn (F : Nat → M Unit) : CSem := fun _ args k => match args with
  | [(t0, .ref a0)] => mB (Nat.beq t0 101) <| bn (F a0) fun _ => k none
  | _ => fl
def cs_Hours_turn : List (Nat × Nat × CSem) := []
def B_Hours_turn_49 (r0 : Nat) (y : Int32) : M ((Int32) ⊕ (Unit)) :=
  bn (rd (hw r0) 8) fun v1 =>
  (if y < v1 then
    bn (ld 18 ((hw r0) + 9) y) fun v2 =>
    bn (sr 18 ((hw r0) + 9) y (if (0 : Int32) < (v2 - (2 : Int32)) then (v2 - (2 : Int32)) else (0 : Int32))) fun _ =>
    rt (.inl (y + (1 : Int32)))
  else
    rt (.inr ()))
set_option maxRecDepth 4000 in
theorem e_b_Hours_turn_49 (r0 : Nat) (y : Int32) : wf (β := (Int32) ⊕ (Unit)) L X q_Hours_turn 0 cs_Hours_turn [1] [49] (fun pc ls st => mC (Nat.beq pc 49) (mN st <| gI ls 1 fun a1 => rt (.inl a1)) (fl)) (fun v => match v with | none => rt (.inr ()) | _ => fl) 53 49 [(101, .ref r0), (0, .int y)] [] = (bn (rd (hw r0) 8) fun v1 =>
  (if y < v1 then
    bn (ld 18 ((hw r0) + 9) y) fun v2 =>
    bn (sr 18 ((hw r0) + 9) y (if (0 : Int32) < (v2 - (2 : Int32)) then (v2 - (2 : Int32)) else (0 : Int32))) fun _ =>
    rt (.inl (y + (1 : Int32)))
  else
    rt (.inr ()))) := rfl
theorem b_Hours_turn_49 {d : Nat} (hcs : AllS L X d cs_Hours_turn) (r0 : Nat) (t0 : okB 101 r0 = true) {o : Option Value × PH} {Q : ((Int32) ⊕ (Unit)) → MI → Prop} (qb : ∀ y I, Q (.inl y) I → At L X (d + 1) 61 49 [(101, .ref r0), (0, .int y)] [] I o) (qr : ∀ v I, Q (.inr v) I → o = (none, HH I)) (y : Int32) (I : MI) (r : (Int32) ⊕ (Unit)) (I1 : MI) (h : B_Hours_turn_49 r0 y I = some (r, I1)) (hq : Q r I1) : At L X (d + 1) 61 49 [(101, .ref r0), (0, .int y)] [] I o := by
  refine wf_ok z_Hours_turn hcs ?_ ?_ _ _ _ _ _ ⟨t0, trivial, trivial⟩ trivial (unm_refl _ _) ((congrFun (e_b_Hours_turn_49 (L := L) (X := X) r0 y) I).trans h)
  · intro pc ls st I2 h1 h2 h3 h
    rcases mC_ok h with ⟨hb, h⟩ | ⟨_, h⟩
    · have e := Nat.eq_of_beq_eq_true hb
      subst e
      obtain ⟨hst, h⟩ := mN_ok h
      subst hst
      obtain ⟨a1, n1, h⟩ := gI_ok h
      refine at_leaf (ls2 := [(101, .ref r0), (0, .int a1)]) h3.1 ⟨Or.inr ⟨_, (h3.2 0 rfl).trans rfl⟩, Or.inr n1, trivial⟩ ?_
      cases h; exact qb _ _ hq
    cases h
  · intro v I2 _ h
    split at h
    · cases h; exact qr _ _ hq
    · cases h
def K_Hours_turn_49 (r0 : Nat) (x1 : Int32) : M (Unit) :=
  lp (B_Hours_turn_49 r0) FU x1
theorem s_Hours_turn_49 {d : Nat} (hcs : AllS L X d cs_Hours_turn) (r0 : Nat) (x1 : Int32) (t0 : okB 101 r0 = true) {o : Option Value × PH} {Q : (Unit) → MI → Prop} (q0 : ∀ v I, Q v I → o = (none, HH I)) (I : MI) (r : Unit) (I1 : MI) (h : K_Hours_turn_49 r0 x1 I = some (r, I1)) (hq : Q r I1) : At L X (d + 1) 61 49 [(101, .ref r0), (0, .int x1)] [] I o := by
  unfold K_Hours_turn_49 at h
  have w0 := fun w => at_lp (body := B_Hours_turn_49 r0) (P := (fun (y : Int32) I => At L X (d + 1) 61 49 [(101, .ref r0), (0, .int y)] [] I o)) (Q := (fun (e : Unit) I => Q e I)) w FU x1 I r I1 h hq
  refine w0 ?_
  intro y I r I1 h hq
  exact b_Hours_turn_49 hcs r0 t0 (Q := SQ (fun (y : Int32) I => At L X (d + 1) 61 49 [(101, .ref r0), (0, .int y)] [] I o) (fun (e : Unit) I => Q e I)) (fun _ _ w => w) q0 y I r I1 h hq
def F_Hours_turn (r0 : Nat) : M (Unit) :=
  bn (rd (hw r0) 4) fun v1 =>
  bn (wr (hw r0) 4 (v1 + (1 : Int32))) fun _ =>
  bn (rd (hw r0) 4) fun v2 =>
  (if v2 < (24 : Int32) then
    rt ()
  else
    bn (wr (hw r0) 4 (0 : Int32)) fun _ =>
    bn (rd (hw r0) 5) fun v3 =>
    bn (wr (hw r0) 5 (v3 + (1 : Int32))) fun _ =>
    K_Hours_turn_49 r0 (0 : Int32))
set_option maxRecDepth 4000 in
theorem e_s_Hours_turn_0 (k_49 : Nat → Int32 → M (Unit)) (r0 : Nat) : wf (β := Unit) L X q_Hours_turn 0 cs_Hours_turn [1] [49] (fun pc ls st => mC (Nat.beq pc 49) (mN st <| gI ls 1 fun a1 => k_49 r0 a1) (fl)) (fun v => match v with | none => rt () | _ => fl) 53 0 [(101, .ref r0), (0, dV)] [] = (bn (rd (hw r0) 4) fun v1 =>
  bn (wr (hw r0) 4 (v1 + (1 : Int32))) fun _ =>
  bn (rd (hw r0) 4) fun v2 =>
  (if v2 < (24 : Int32) then
    rt ()
  else
    bn (wr (hw r0) 4 (0 : Int32)) fun _ =>
    bn (rd (hw r0) 5) fun v3 =>
    bn (wr (hw r0) 5 (v3 + (1 : Int32))) fun _ =>
    k_49 r0 (0 : Int32))) := rfl
theorem s_Hours_turn_0 {d : Nat} (hcs : AllS L X d cs_Hours_turn) (r0 : Nat) (t0 : okB 101 r0 = true) {o : Option Value × PH} {Q : (Unit) → MI → Prop} (q0 : ∀ v I, Q v I → o = (none, HH I)) (I : MI) (r : Unit) (I1 : MI) (h : F_Hours_turn r0 I = some (r, I1)) (hq : Q r I1) : At L X (d + 1) 61 0 [(101, .ref r0), (0, dV)] [] I o := by
  refine wf_ok z_Hours_turn hcs ?_ ?_ _ _ _ _ _ ⟨t0, trivial, trivial⟩ trivial (unm_refl _ _) ((congrFun (e_s_Hours_turn_0 (L := L) (X := X) K_Hours_turn_49 r0) I).trans h)
  · intro pc ls st I2 h1 h2 h3 h
    rcases mC_ok h with ⟨hb, h⟩ | ⟨_, h⟩
    · have e := Nat.eq_of_beq_eq_true hb
      subst e
      obtain ⟨hst, h⟩ := mN_ok h
      subst hst
      obtain ⟨a1, n1, h⟩ := gI_ok h
      refine at_leaf (ls2 := [(101, .ref r0), (0, .int a1)]) h3.1 ⟨Or.inr ⟨_, (h3.2 0 rfl).trans rfl⟩, Or.inr n1, trivial⟩ ?_
      exact s_Hours_turn_49 hcs r0 a1 t0 q0 _ _ _ h hq
    cases h
  · intro v I2 _ h
    split at h
    · cases h; exact q0 _ _ hq
    · cases h
theorem w_Hours_turn {d : Nat} (hcs : AllS L X d cs_Hours_turn) : Snd L X (d + 1) 61 1 (W_Hours_turn F_Hours_turn) := by
  refine ⟨_, z_Hours_turn, rfl, fun β args k I r hty hlen h => ?_⟩
  unfold W_Hours_turn at h
  split at h
  · rename_i t0 a0
    obtain ⟨hb0, h⟩ := mB_ok h
    have e0 := Nat.eq_of_beq_eq_true hb0
    have g0 : okB 101 a0 = true := e0 ▸ hty.1
    obtain ⟨v, I1, h1, h2⟩ := bn_some h
    refine ⟨gf_obj (c := 1) (by decide) g0, rfl, none, I1, trivial, ?_, h2⟩
    exact s_Hours_turn_0 hcs a0 g0 (Q := fun w I => w = v ∧ I = I1) (fun w I q => by obtain ⟨rfl, rfl⟩ := q; rfl) I v I1 h1 ⟨rfl, rfl⟩
  · cases h
theorem S_Hours_turn {d : Nat} (hd : 1 ≤ d) : Snd L X d 61 1 (W_Hours_turn F_Hours_turn) := by
  obtain ⟨e, rfl⟩ : ∃ e, d = e + 1 := ⟨d - 1, by omega⟩
  exact w_Hours_turn trivial
set_option maxRecDepth 100000 in
theorem z_Hours_pass : pT[34]? = some (q_Hours_pass, 1, 2, 0, 1) := rfl
def W_Hours_pass (F : Nat → M Unit) : CSem := fun _ args k => match args with
  | [(t0, .ref a0)] => mB (Nat.beq t0 101) <| bn (F a0) fun _ => k none
  | _ => fl
def cs_Hours_pass (f_Hours_beSeen : Nat → M Unit) (f_Hours_earn : Nat → M Unit) (f_Hours_keepDiary : Nat → M Unit) (f_Hours_sendCousins : Nat → Int32 → M Unit) (f_Hours_share : Nat → M Unit) (f_Hours_strikeOff : Nat → M Unit) (f_Hours_turn : Nat → M Unit) : List (Nat × Nat × CSem) := [(46, 1, W_Hours_beSeen f_Hours_beSeen), (59, 1, W_Hours_earn f_Hours_earn), (35, 1, W_Hours_keepDiary f_Hours_keepDiary), (42, 2, W_Hours_sendCousins f_Hours_sendCousins), (39, 1, W_Hours_share f_Hours_share), (60, 1, W_Hours_strikeOff f_Hours_strikeOff), (61, 1, W_Hours_turn f_Hours_turn)]
def B_Hours_pass_10 (r0 : Nat) (y : Int32) : M ((Int32) ⊕ (Unit)) :=
  bn (rd (hw r0) 7) fun v1 =>
  (if y < v1 then
    bn (F_Hours_sendCousins r0 y) fun _ =>
    rt (.inl (y + (1 : Int32)))
  else
    bn (F_Hours_beSeen r0) fun _ =>
    bn (F_Hours_earn r0) fun _ =>
    bn (F_Hours_strikeOff r0) fun _ =>
    bn (F_Hours_turn r0) fun _ =>
    rt (.inr ()))
set_option maxRecDepth 4000 in
theorem e_b_Hours_pass_10 (f_Hours_beSeen : Nat → M Unit) (f_Hours_earn : Nat → M Unit) (f_Hours_keepDiary : Nat → M Unit) (f_Hours_sendCousins : Nat → Int32 → M Unit) (f_Hours_share : Nat → M Unit) (f_Hours_strikeOff : Nat → M Unit) (f_Hours_turn : Nat → M Unit) (r0 : Nat) (y : Int32) : wf (β := (Int32) ⊕ (Unit)) L X q_Hours_pass 0 (cs_Hours_pass f_Hours_beSeen f_Hours_earn f_Hours_keepDiary f_Hours_sendCousins f_Hours_share f_Hours_strikeOff f_Hours_turn) [1] [10] (fun pc ls st => mC (Nat.beq pc 10) (mN st <| gI ls 1 fun a1 => rt (.inl a1)) (fl)) (fun v => match v with | none => rt (.inr ()) | _ => fl) 30 10 [(101, .ref r0), (0, .int y)] [] = (bn (rd (hw r0) 7) fun v1 =>
  (if y < v1 then
    bn (f_Hours_sendCousins r0 y) fun _ =>
    rt (.inl (y + (1 : Int32)))
  else
    bn (f_Hours_beSeen r0) fun _ =>
    bn (f_Hours_earn r0) fun _ =>
    bn (f_Hours_strikeOff r0) fun _ =>
    bn (f_Hours_turn r0) fun _ =>
    rt (.inr ()))) := rfl
theorem b_Hours_pass_10 {d : Nat} (hcs : AllS L X d (cs_Hours_pass F_Hours_beSeen F_Hours_earn F_Hours_keepDiary F_Hours_sendCousins F_Hours_share F_Hours_strikeOff F_Hours_turn)) (r0 : Nat) (t0 : okB 101 r0 = true) {o : Option Value × PH} {Q : ((Int32) ⊕ (Unit)) → MI → Prop} (qb : ∀ y I, Q (.inl y) I → At L X (d + 1) 34 10 [(101, .ref r0), (0, .int y)] [] I o) (qr : ∀ v I, Q (.inr v) I → o = (none, HH I)) (y : Int32) (I : MI) (r : (Int32) ⊕ (Unit)) (I1 : MI) (h : B_Hours_pass_10 r0 y I = some (r, I1)) (hq : Q r I1) : At L X (d + 1) 34 10 [(101, .ref r0), (0, .int y)] [] I o := by
  refine wf_ok z_Hours_pass hcs ?_ ?_ _ _ _ _ _ ⟨t0, trivial, trivial⟩ trivial (unm_refl _ _) ((congrFun (e_b_Hours_pass_10 (L := L) (X := X) F_Hours_beSeen F_Hours_earn F_Hours_keepDiary F_Hours_sendCousins F_Hours_share F_Hours_strikeOff F_Hours_turn r0 y) I).trans h)
  · intro pc ls st I2 h1 h2 h3 h
    rcases mC_ok h with ⟨hb, h⟩ | ⟨_, h⟩
    · have e := Nat.eq_of_beq_eq_true hb
      subst e
      obtain ⟨hst, h⟩ := mN_ok h
      subst hst
      obtain ⟨a1, n1, h⟩ := gI_ok h
      refine at_leaf (ls2 := [(101, .ref r0), (0, .int a1)]) h3.1 ⟨Or.inr ⟨_, (h3.2 0 rfl).trans rfl⟩, Or.inr n1, trivial⟩ ?_
      cases h; exact qb _ _ hq
    cases h
  · intro v I2 _ h
    split at h
    · cases h; exact qr _ _ hq
    · cases h
def K_Hours_pass_10 (r0 : Nat) (x1 : Int32) : M (Unit) :=
  lp (B_Hours_pass_10 r0) FU x1
theorem s_Hours_pass_10 {d : Nat} (hcs : AllS L X d (cs_Hours_pass F_Hours_beSeen F_Hours_earn F_Hours_keepDiary F_Hours_sendCousins F_Hours_share F_Hours_strikeOff F_Hours_turn)) (r0 : Nat) (x1 : Int32) (t0 : okB 101 r0 = true) {o : Option Value × PH} {Q : (Unit) → MI → Prop} (q0 : ∀ v I, Q v I → o = (none, HH I)) (I : MI) (r : Unit) (I1 : MI) (h : K_Hours_pass_10 r0 x1 I = some (r, I1)) (hq : Q r I1) : At L X (d + 1) 34 10 [(101, .ref r0), (0, .int x1)] [] I o := by
  unfold K_Hours_pass_10 at h
  have w0 := fun w => at_lp (body := B_Hours_pass_10 r0) (P := (fun (y : Int32) I => At L X (d + 1) 34 10 [(101, .ref r0), (0, .int y)] [] I o)) (Q := (fun (e : Unit) I => Q e I)) w FU x1 I r I1 h hq
  refine w0 ?_
  intro y I r I1 h hq
  exact b_Hours_pass_10 hcs r0 t0 (Q := SQ (fun (y : Int32) I => At L X (d + 1) 34 10 [(101, .ref r0), (0, .int y)] [] I o) (fun (e : Unit) I => Q e I)) (fun _ _ w => w) q0 y I r I1 h hq
def F_Hours_pass (r0 : Nat) : M (Unit) :=
  bn (F_Hours_keepDiary r0) fun _ =>
  bn (F_Hours_share r0) fun _ =>
  K_Hours_pass_10 r0 (0 : Int32)
set_option maxRecDepth 4000 in
theorem e_s_Hours_pass_0 (f_Hours_beSeen : Nat → M Unit) (f_Hours_earn : Nat → M Unit) (f_Hours_keepDiary : Nat → M Unit) (f_Hours_sendCousins : Nat → Int32 → M Unit) (f_Hours_share : Nat → M Unit) (f_Hours_strikeOff : Nat → M Unit) (f_Hours_turn : Nat → M Unit) (k_10 : Nat → Int32 → M (Unit)) (r0 : Nat) : wf (β := Unit) L X q_Hours_pass 0 (cs_Hours_pass f_Hours_beSeen f_Hours_earn f_Hours_keepDiary f_Hours_sendCousins f_Hours_share f_Hours_strikeOff f_Hours_turn) [1] [10] (fun pc ls st => mC (Nat.beq pc 10) (mN st <| gI ls 1 fun a1 => k_10 r0 a1) (fl)) (fun v => match v with | none => rt () | _ => fl) 30 0 [(101, .ref r0), (0, dV)] [] = (bn (f_Hours_keepDiary r0) fun _ =>
  bn (f_Hours_share r0) fun _ =>
  k_10 r0 (0 : Int32)) := rfl
theorem s_Hours_pass_0 {d : Nat} (hcs : AllS L X d (cs_Hours_pass F_Hours_beSeen F_Hours_earn F_Hours_keepDiary F_Hours_sendCousins F_Hours_share F_Hours_strikeOff F_Hours_turn)) (r0 : Nat) (t0 : okB 101 r0 = true) {o : Option Value × PH} {Q : (Unit) → MI → Prop} (q0 : ∀ v I, Q v I → o = (none, HH I)) (I : MI) (r : Unit) (I1 : MI) (h : F_Hours_pass r0 I = some (r, I1)) (hq : Q r I1) : At L X (d + 1) 34 0 [(101, .ref r0), (0, dV)] [] I o := by
  refine wf_ok z_Hours_pass hcs ?_ ?_ _ _ _ _ _ ⟨t0, trivial, trivial⟩ trivial (unm_refl _ _) ((congrFun (e_s_Hours_pass_0 (L := L) (X := X) F_Hours_beSeen F_Hours_earn F_Hours_keepDiary F_Hours_sendCousins F_Hours_share F_Hours_strikeOff F_Hours_turn K_Hours_pass_10 r0) I).trans h)
  · intro pc ls st I2 h1 h2 h3 h
    rcases mC_ok h with ⟨hb, h⟩ | ⟨_, h⟩
    · have e := Nat.eq_of_beq_eq_true hb
      subst e
      obtain ⟨hst, h⟩ := mN_ok h
      subst hst
      obtain ⟨a1, n1, h⟩ := gI_ok h
      refine at_leaf (ls2 := [(101, .ref r0), (0, .int a1)]) h3.1 ⟨Or.inr ⟨_, (h3.2 0 rfl).trans rfl⟩, Or.inr n1, trivial⟩ ?_
      exact s_Hours_pass_10 hcs r0 a1 t0 q0 _ _ _ h hq
    cases h
  · intro v I2 _ h
    split at h
    · cases h; exact q0 _ _ hq
    · cases h
theorem w_Hours_pass {d : Nat} (hcs : AllS L X d (cs_Hours_pass F_Hours_beSeen F_Hours_earn F_Hours_keepDiary F_Hours_sendCousins F_Hours_share F_Hours_strikeOff F_Hours_turn)) : Snd L X (d + 1) 34 1 (W_Hours_pass F_Hours_pass) := by
  refine ⟨_, z_Hours_pass, rfl, fun β args k I r hty hlen h => ?_⟩
  unfold W_Hours_pass at h
  split at h
  · rename_i t0 a0
    obtain ⟨hb0, h⟩ := mB_ok h
    have e0 := Nat.eq_of_beq_eq_true hb0
    have g0 : okB 101 a0 = true := e0 ▸ hty.1
    obtain ⟨v, I1, h1, h2⟩ := bn_some h
    refine ⟨gf_obj (c := 1) (by decide) g0, rfl, none, I1, trivial, ?_, h2⟩
    exact s_Hours_pass_0 hcs a0 g0 (Q := fun w I => w = v ∧ I = I1) (fun w I q => by obtain ⟨rfl, rfl⟩ := q; rfl) I v I1 h1 ⟨rfl, rfl⟩
  · cases h
theorem S_Hours_pass {d : Nat} (hd : 7 ≤ d) : Snd L X d 34 1 (W_Hours_pass F_Hours_pass) := by
  obtain ⟨e, rfl⟩ : ∃ e, d = e + 1 := ⟨d - 1, by omega⟩
  exact w_Hours_pass ⟨S_Hours_beSeen (by omega), S_Hours_earn (by omega), S_Hours_keepDiary (by omega), S_Hours_sendCousins (by omega), S_Hours_share (by omega), S_Hours_strikeOff (by omega), S_Hours_turn (by omega), trivial⟩
set_option maxRecDepth 100000 in
theorem z_World_purses : pT[119]? = some (q_World_purses, 1, 3, 1, 10) := rfl
def W_World_purses (F : Nat → M Int32) : CSem := fun _ args k => match args with
  | [(t0, .ref a0)] => mB (Nat.beq t0 110) <| bn (F a0) fun v => k (some (0, .int v))
  | _ => fl
def cs_World_purses : List (Nat × Nat × CSem) := []
def B_World_purses_4 (r0 : Nat) (y : Int32 × Int32) : M ((Int32 × Int32) ⊕ (Int32)) :=
  bn (rd r0 7) fun v1 =>
  (if y.2 < v1 then
    bn (ld 6 (r0 + 3) y.2) fun v2 =>
    rt (.inl ((y.1 + v2), (y.2 + (1 : Int32))))
  else
    rt (.inr y.1))
set_option maxRecDepth 4000 in
theorem e_b_World_purses_4 (r0 : Nat) (y : Int32 × Int32) : wf (β := (Int32 × Int32) ⊕ (Int32)) L X q_World_purses 1 cs_World_purses [1, 2] [4] (fun pc ls st => mC (Nat.beq pc 4) (mN st <| gI ls 1 fun a1 => gI ls 2 fun a2 => rt (.inl (a1, a2))) (fl)) (fun v => match v with | some (_, .int x) => rt (.inr x) | _ => fl) 24 4 [(110, .ref r0), (0, .int y.1), (0, .int y.2)] [] = (bn (rd r0 7) fun v1 =>
  (if y.2 < v1 then
    bn (ld 6 (r0 + 3) y.2) fun v2 =>
    rt (.inl ((y.1 + v2), (y.2 + (1 : Int32))))
  else
    rt (.inr y.1))) := rfl
theorem b_World_purses_4 {d : Nat} (hcs : AllS L X d cs_World_purses) (r0 : Nat) (t0 : okB 110 r0 = true) {o : Option Value × PH} {Q : ((Int32 × Int32) ⊕ (Int32)) → MI → Prop} (qb : ∀ y I, Q (.inl y) I → At L X (d + 1) 119 4 [(110, .ref r0), (0, .int y.1), (0, .int y.2)] [] I o) (qr : ∀ v I, Q (.inr v) I → o = (some (.int v), HH I)) (y : Int32 × Int32) (I : MI) (r : (Int32 × Int32) ⊕ (Int32)) (I1 : MI) (h : B_World_purses_4 r0 y I = some (r, I1)) (hq : Q r I1) : At L X (d + 1) 119 4 [(110, .ref r0), (0, .int y.1), (0, .int y.2)] [] I o := by
  refine wf_ok z_World_purses hcs ?_ ?_ _ _ _ _ _ ⟨t0, trivial, trivial, trivial⟩ trivial (unm_refl _ _) ((congrFun (e_b_World_purses_4 (L := L) (X := X) r0 y) I).trans h)
  · intro pc ls st I2 h1 h2 h3 h
    rcases mC_ok h with ⟨hb, h⟩ | ⟨_, h⟩
    · have e := Nat.eq_of_beq_eq_true hb
      subst e
      obtain ⟨hst, h⟩ := mN_ok h
      subst hst
      obtain ⟨a1, n1, h⟩ := gI_ok h
      obtain ⟨a2, n2, h⟩ := gI_ok h
      refine at_leaf (ls2 := [(110, .ref r0), (0, .int a1), (0, .int a2)]) h3.1 ⟨Or.inr ⟨_, (h3.2 0 rfl).trans rfl⟩, Or.inr n1, Or.inr n2, trivial⟩ ?_
      cases h; exact qb _ _ hq
    cases h
  · intro v I2 _ h
    split at h
    · cases h; exact qr _ _ hq
    · cases h
def K_World_purses_4 (r0 : Nat) (x1 : Int32) (x2 : Int32) : M (Int32) :=
  lp (B_World_purses_4 r0) FU (x1, x2)
theorem s_World_purses_4 {d : Nat} (hcs : AllS L X d cs_World_purses) (r0 : Nat) (x1 : Int32) (x2 : Int32) (t0 : okB 110 r0 = true) {o : Option Value × PH} {Q : (Int32) → MI → Prop} (q0 : ∀ v I, Q v I → o = (some (.int v), HH I)) (I : MI) (r : Int32) (I1 : MI) (h : K_World_purses_4 r0 x1 x2 I = some (r, I1)) (hq : Q r I1) : At L X (d + 1) 119 4 [(110, .ref r0), (0, .int x1), (0, .int x2)] [] I o := by
  unfold K_World_purses_4 at h
  have w0 := fun w => at_lp (body := B_World_purses_4 r0) (P := (fun (y : Int32 × Int32) I => At L X (d + 1) 119 4 [(110, .ref r0), (0, .int y.1), (0, .int y.2)] [] I o)) (Q := (fun (e : Int32) I => Q e I)) w FU (x1, x2) I r I1 h hq
  refine w0 ?_
  intro y I r I1 h hq
  exact b_World_purses_4 hcs r0 t0 (Q := SQ (fun (y : Int32 × Int32) I => At L X (d + 1) 119 4 [(110, .ref r0), (0, .int y.1), (0, .int y.2)] [] I o) (fun (e : Int32) I => Q e I)) (fun _ _ w => w) q0 y I r I1 h hq
def F_World_purses (r0 : Nat) : M (Int32) :=
  K_World_purses_4 r0 (0 : Int32) (0 : Int32)
set_option maxRecDepth 4000 in
theorem e_s_World_purses_0 (k_4 : Nat → Int32 → Int32 → M (Int32)) (r0 : Nat) : wf (β := Int32) L X q_World_purses 1 cs_World_purses [1, 2] [4] (fun pc ls st => mC (Nat.beq pc 4) (mN st <| gI ls 1 fun a1 => gI ls 2 fun a2 => k_4 r0 a1 a2) (fl)) (fun v => match v with | some (_, .int x) => rt x | _ => fl) 24 0 [(110, .ref r0), (0, dV), (0, dV)] [] = (k_4 r0 (0 : Int32) (0 : Int32)) := rfl
theorem s_World_purses_0 {d : Nat} (hcs : AllS L X d cs_World_purses) (r0 : Nat) (t0 : okB 110 r0 = true) {o : Option Value × PH} {Q : (Int32) → MI → Prop} (q0 : ∀ v I, Q v I → o = (some (.int v), HH I)) (I : MI) (r : Int32) (I1 : MI) (h : F_World_purses r0 I = some (r, I1)) (hq : Q r I1) : At L X (d + 1) 119 0 [(110, .ref r0), (0, dV), (0, dV)] [] I o := by
  refine wf_ok z_World_purses hcs ?_ ?_ _ _ _ _ _ ⟨t0, trivial, trivial, trivial⟩ trivial (unm_refl _ _) ((congrFun (e_s_World_purses_0 (L := L) (X := X) K_World_purses_4 r0) I).trans h)
  · intro pc ls st I2 h1 h2 h3 h
    rcases mC_ok h with ⟨hb, h⟩ | ⟨_, h⟩
    · have e := Nat.eq_of_beq_eq_true hb
      subst e
      obtain ⟨hst, h⟩ := mN_ok h
      subst hst
      obtain ⟨a1, n1, h⟩ := gI_ok h
      obtain ⟨a2, n2, h⟩ := gI_ok h
      refine at_leaf (ls2 := [(110, .ref r0), (0, .int a1), (0, .int a2)]) h3.1 ⟨Or.inr ⟨_, (h3.2 0 rfl).trans rfl⟩, Or.inr n1, Or.inr n2, trivial⟩ ?_
      exact s_World_purses_4 hcs r0 a1 a2 t0 q0 _ _ _ h hq
    cases h
  · intro v I2 _ h
    split at h
    · cases h; exact q0 _ _ hq
    · cases h
theorem w_World_purses {d : Nat} (hcs : AllS L X d cs_World_purses) : Snd L X (d + 1) 119 1 (W_World_purses F_World_purses) := by
  refine ⟨_, z_World_purses, rfl, fun β args k I r hty hlen h => ?_⟩
  unfold W_World_purses at h
  split at h
  · rename_i t0 a0
    obtain ⟨hb0, h⟩ := mB_ok h
    have e0 := Nat.eq_of_beq_eq_true hb0
    have g0 : okB 110 a0 = true := e0 ▸ hty.1
    obtain ⟨v, I1, h1, h2⟩ := bn_some h
    refine ⟨gf_obj (c := 10) (by decide) g0, rfl, some (0, .int v), I1, trivial, ?_, h2⟩
    exact s_World_purses_0 hcs a0 g0 (Q := fun w I => w = v ∧ I = I1) (fun w I q => by obtain ⟨rfl, rfl⟩ := q; rfl) I v I1 h1 ⟨rfl, rfl⟩
  · cases h
theorem S_World_purses {d : Nat} (hd : 1 ≤ d) : Snd L X d 119 1 (W_World_purses F_World_purses) := by
  obtain ⟨e, rfl⟩ : ∃ e, d = e + 1 := ⟨d - 1, by omega⟩
  exact w_World_purses trivial
set_option maxRecDepth 100000 in
theorem z_A_goes : pT[118]? = some (q_A_goes, 3, 4, 1, 11) := rfl
def W_A_goes (F : Int32 → Int32 → M Int32) : CSem := fun _ args k => match args with
  | [(t0, .ref a0), (_, .int a1), (_, .int a2)] => mB (Nat.beq t0 111) <| bn (F a1 a2) fun v => k (some (0, .int v))
  | _ => fl
def cs_A_goes (f_A_within : Int32 → Int32 → Int32 → M Int32) (f_Hours_pass : Nat → M Unit) (f_World_become : Nat → Nat → M Unit) (f_World_purses : Nat → M Int32) : List (Nat × Nat × CSem) := [(18, 3, W_A_within f_A_within), (34, 1, W_Hours_pass f_Hours_pass), (28, 2, W_World_become f_World_become), (119, 1, W_World_purses f_World_purses)]
def B_A_goes_37 (x1 : Int32) (x2 : Int32) (y : Int32) : M ((Int32) ⊕ ((Unit))) :=
  (if y < x1 then
    bn (F_Hours_pass 122) fun _ =>
    rt (.inl (y + (1 : Int32)))
  else
    rt (.inr ()))
set_option maxRecDepth 4000 in
theorem e_b_A_goes_37 (f_A_within : Int32 → Int32 → Int32 → M Int32) (f_Hours_pass : Nat → M Unit) (f_World_become : Nat → Nat → M Unit) (f_World_purses : Nat → M Int32) (x1 : Int32) (x2 : Int32) (y : Int32) : wf (β := (Int32) ⊕ ((Unit))) L X q_A_goes 1 (cs_A_goes f_A_within f_Hours_pass f_World_become f_World_purses) [3] [37, 55] (fun pc ls st => mC (Nat.beq pc 37) (mN st <| gI ls 3 fun a3 => rt (.inl a3)) (mC (Nat.beq pc 55) (mN st <| gD ls 1 <| gD ls 3 <| rt (.inr ())) (fl))) (fun _ => fl) 51 37 [(111, .ref 0), (0, .int x1), (0, .int x2), (0, .int y)] [] = ((if y < x1 then
    bn (f_Hours_pass 122) fun _ =>
    rt (.inl (y + (1 : Int32)))
  else
    rt (.inr ()))) := rfl
theorem b_A_goes_37 {d : Nat} (hcs : AllS L X d (cs_A_goes F_A_within F_Hours_pass F_World_become F_World_purses)) (x1 : Int32) (x2 : Int32) {o : Option Value × PH} {Q : ((Int32) ⊕ ((Unit))) → MI → Prop} (qb : ∀ y I, Q (.inl y) I → At L X (d + 1) 118 37 [(111, .ref 0), (0, .int x1), (0, .int x2), (0, .int y)] [] I o) (qe55 : ∀ y I, Q (.inr y) I → At L X (d + 1) 118 55 [(111, .ref 0), (0, dV), (0, .int x2), (0, dV)] [] I o) (y : Int32) (I : MI) (r : (Int32) ⊕ ((Unit))) (I1 : MI) (h : B_A_goes_37 x1 x2 y I = some (r, I1)) (hq : Q r I1) : At L X (d + 1) 118 37 [(111, .ref 0), (0, .int x1), (0, .int x2), (0, .int y)] [] I o := by
  refine wf_ok z_A_goes hcs ?_ ?_ _ _ _ _ _ ⟨rfl, trivial, trivial, trivial, trivial⟩ trivial (unm_refl _ _) ((congrFun (e_b_A_goes_37 (L := L) (X := X) F_A_within F_Hours_pass F_World_become F_World_purses x1 x2 y) I).trans h)
  · intro pc ls st I2 h1 h2 h3 h
    rcases mC_ok h with ⟨hb, h⟩ | ⟨_, h⟩
    · have e := Nat.eq_of_beq_eq_true hb
      subst e
      obtain ⟨hst, h⟩ := mN_ok h
      subst hst
      obtain ⟨a3, n3, h⟩ := gI_ok h
      refine at_leaf (ls2 := [(111, .ref 0), (0, .int x1), (0, .int x2), (0, .int a3)]) h3.1 ⟨Or.inr ⟨_, (h3.2 0 rfl).trans rfl⟩, Or.inr ⟨_, (h3.2 1 rfl).trans rfl⟩, Or.inr ⟨_, (h3.2 2 rfl).trans rfl⟩, Or.inr n3, trivial⟩ ?_
      cases h; exact qb _ _ hq
    rcases mC_ok h with ⟨hb, h⟩ | ⟨_, h⟩
    · have e := Nat.eq_of_beq_eq_true hb
      subst e
      obtain ⟨hst, h⟩ := mN_ok h
      subst hst
      obtain ⟨n1, h⟩ := gD_ok h
      obtain ⟨n3, h⟩ := gD_ok h
      refine at_leaf (ls2 := [(111, .ref 0), (0, dV), (0, .int x2), (0, dV)]) h3.1 ⟨Or.inr ⟨_, (h3.2 0 rfl).trans rfl⟩, Or.inl ⟨rfl, n1⟩, Or.inr ⟨_, (h3.2 2 rfl).trans rfl⟩, Or.inl ⟨rfl, n3⟩, trivial⟩ ?_
      cases h; exact qe55 _ _ hq
    cases h
  · intro v I2 _ h
    cases h
def K_A_goes_55 (x2 : Int32) : M (Int32) :=
  (if x2 = (0 : Int32) then
    bn (F_World_purses 111) fun v1 =>
    rt v1
  else (if x2 = (1 : Int32) then
    bn (rd 111 1) fun v2 =>
    rt v2
  else (if x2 = (2 : Int32) then
    bn (rd 111 3) fun v3 =>
    rt v3
  else bn (rd 111 2) fun v4 =>
    rt v4)))
set_option maxRecDepth 4000 in
theorem e_s_A_goes_55 (f_A_within : Int32 → Int32 → Int32 → M Int32) (f_Hours_pass : Nat → M Unit) (f_World_become : Nat → Nat → M Unit) (f_World_purses : Nat → M Int32) (x2 : Int32) : wf (β := Int32) L X q_A_goes 1 (cs_A_goes f_A_within f_Hours_pass f_World_become f_World_purses) [] [37, 55] (fun _ _ _ => fl) (fun v => match v with | some (_, .int x) => rt x | _ => fl) 51 55 [(111, .ref 0), (0, dV), (0, .int x2), (0, dV)] [] = ((if x2 = (0 : Int32) then
    bn (f_World_purses 111) fun v1 =>
    rt v1
  else (if x2 = (1 : Int32) then
    bn (rd 111 1) fun v2 =>
    rt v2
  else (if x2 = (2 : Int32) then
    bn (rd 111 3) fun v3 =>
    rt v3
  else bn (rd 111 2) fun v4 =>
    rt v4)))) := rfl
theorem s_A_goes_55 {d : Nat} (hcs : AllS L X d (cs_A_goes F_A_within F_Hours_pass F_World_become F_World_purses)) (x2 : Int32) {o : Option Value × PH} {Q : (Int32) → MI → Prop} (q0 : ∀ v I, Q v I → o = (some (.int v), HH I)) (I : MI) (r : Int32) (I1 : MI) (h : K_A_goes_55 x2 I = some (r, I1)) (hq : Q r I1) : At L X (d + 1) 118 55 [(111, .ref 0), (0, dV), (0, .int x2), (0, dV)] [] I o := by
  refine wf_ok z_A_goes hcs ?_ ?_ _ _ _ _ _ ⟨rfl, trivial, trivial, trivial, trivial⟩ trivial (unm_refl _ _) ((congrFun (e_s_A_goes_55 (L := L) (X := X) F_A_within F_Hours_pass F_World_become F_World_purses x2) I).trans h)
  · intro pc ls st I2 h1 h2 h3 h
    cases h
  · intro v I2 _ h
    split at h
    · cases h; exact q0 _ _ hq
    · cases h
def K_A_goes_37 (x1 : Int32) (x2 : Int32) (x3 : Int32) : M (Int32) :=
  bn (lp (B_A_goes_37 x1 x2) FU x3) fun e => K_A_goes_55 x2
theorem s_A_goes_37 {d : Nat} (hcs : AllS L X d (cs_A_goes F_A_within F_Hours_pass F_World_become F_World_purses)) (x1 : Int32) (x2 : Int32) (x3 : Int32) {o : Option Value × PH} {Q : (Int32) → MI → Prop} (q0 : ∀ v I, Q v I → o = (some (.int v), HH I)) (I : MI) (r : Int32) (I1 : MI) (h : K_A_goes_37 x1 x2 x3 I = some (r, I1)) (hq : Q r I1) : At L X (d + 1) 118 37 [(111, .ref 0), (0, .int x1), (0, .int x2), (0, .int x3)] [] I o := by
  unfold K_A_goes_37 at h
  obtain ⟨e, I2, h1, h2⟩ := bn_some h
  have w0 := fun w => at_lp (body := B_A_goes_37 x1 x2) (P := (fun (y : Int32) I => At L X (d + 1) 118 37 [(111, .ref 0), (0, .int x1), (0, .int x2), (0, .int y)] [] I o)) (Q := (fun (e : (Unit)) I => (K_A_goes_55 x2) I = some (r, I1))) w FU x3 I e I2 h1 h2
  refine w0 ?_
  intro y I r2 I3 h hq2
  exact b_A_goes_37 hcs x1 x2 (Q := SQ (fun (y : Int32) I => At L X (d + 1) 118 37 [(111, .ref 0), (0, .int x1), (0, .int x2), (0, .int y)] [] I o) (fun (e : (Unit)) I => (K_A_goes_55 x2) I = some (r, I1))) (fun _ _ w => w) (fun y I w => s_A_goes_55 hcs x2 q0 _ _ _ w hq) y I r2 I3 h hq2
def F_A_goes (x1 : Int32) (x2 : Int32) : M (Int32) :=
  bn (F_A_within x1 (1 : Int32) (60 : Int32)) fun v1 =>
  (if v1 = 0 then
    rt (-1 : Int32)
  else
    bn (F_A_within x2 (0 : Int32) (3 : Int32)) fun v2 =>
    (if v2 = 0 then
      rt (-1 : Int32)
    else
      bn (F_World_become 111 2) fun _ =>
      K_A_goes_37 x1 x2 (0 : Int32)))
set_option maxRecDepth 4000 in
theorem e_s_A_goes_0 (f_A_within : Int32 → Int32 → Int32 → M Int32) (f_Hours_pass : Nat → M Unit) (f_World_become : Nat → Nat → M Unit) (f_World_purses : Nat → M Int32) (k_37 : Int32 → Int32 → Int32 → M (Int32)) (x1 : Int32) (x2 : Int32) : wf (β := Int32) L X q_A_goes 1 (cs_A_goes f_A_within f_Hours_pass f_World_become f_World_purses) [3] [37, 55] (fun pc ls st => mC (Nat.beq pc 37) (mN st <| gI ls 3 fun a3 => k_37 x1 x2 a3) (fl)) (fun v => match v with | some (_, .int x) => rt x | _ => fl) 51 0 [(111, .ref 0), (0, .int x1), (0, .int x2), (0, dV)] [] = (bn (f_A_within x1 (1 : Int32) (60 : Int32)) fun v1 =>
  (if v1 = 0 then
    rt (-1 : Int32)
  else
    bn (f_A_within x2 (0 : Int32) (3 : Int32)) fun v2 =>
    (if v2 = 0 then
      rt (-1 : Int32)
    else
      bn (f_World_become 111 2) fun _ =>
      k_37 x1 x2 (0 : Int32)))) := rfl
theorem s_A_goes_0 {d : Nat} (hcs : AllS L X d (cs_A_goes F_A_within F_Hours_pass F_World_become F_World_purses)) (x1 : Int32) (x2 : Int32) {o : Option Value × PH} {Q : (Int32) → MI → Prop} (q0 : ∀ v I, Q v I → o = (some (.int v), HH I)) (I : MI) (r : Int32) (I1 : MI) (h : F_A_goes x1 x2 I = some (r, I1)) (hq : Q r I1) : At L X (d + 1) 118 0 [(111, .ref 0), (0, .int x1), (0, .int x2), (0, dV)] [] I o := by
  refine wf_ok z_A_goes hcs ?_ ?_ _ _ _ _ _ ⟨rfl, trivial, trivial, trivial, trivial⟩ trivial (unm_refl _ _) ((congrFun (e_s_A_goes_0 (L := L) (X := X) F_A_within F_Hours_pass F_World_become F_World_purses K_A_goes_37 x1 x2) I).trans h)
  · intro pc ls st I2 h1 h2 h3 h
    rcases mC_ok h with ⟨hb, h⟩ | ⟨_, h⟩
    · have e := Nat.eq_of_beq_eq_true hb
      subst e
      obtain ⟨hst, h⟩ := mN_ok h
      subst hst
      obtain ⟨a3, n3, h⟩ := gI_ok h
      refine at_leaf (ls2 := [(111, .ref 0), (0, .int x1), (0, .int x2), (0, .int a3)]) h3.1 ⟨Or.inr ⟨_, (h3.2 0 rfl).trans rfl⟩, Or.inr ⟨_, (h3.2 1 rfl).trans rfl⟩, Or.inr ⟨_, (h3.2 2 rfl).trans rfl⟩, Or.inr n3, trivial⟩ ?_
      exact s_A_goes_37 hcs x1 x2 a3 q0 _ _ _ h hq
    cases h
  · intro v I2 _ h
    split at h
    · cases h; exact q0 _ _ hq
    · cases h
theorem w_A_goes {d : Nat} (hcs : AllS L X d (cs_A_goes F_A_within F_Hours_pass F_World_become F_World_purses)) : Snd L X (d + 1) 118 3 (W_A_goes F_A_goes) := by
  refine ⟨_, z_A_goes, rfl, fun β args k I r hty hlen h => ?_⟩
  unfold W_A_goes at h
  split at h
  · rename_i t0 a0 u1 a1 u2 a2
    obtain ⟨hb0, h⟩ := mB_ok h
    have e0 := Nat.eq_of_beq_eq_true hb0
    have g0 : okB 111 a0 = true := e0 ▸ hty.1
    have e20 := one_111 g0
    subst e20
    obtain ⟨v, I1, h1, h2⟩ := bn_some h
    refine ⟨gf_obj (c := 11) (by decide) g0, rfl, some (0, .int v), I1, trivial, ?_, h2⟩
    exact s_A_goes_0 hcs a1 a2  (Q := fun w I => w = v ∧ I = I1) (fun w I q => by obtain ⟨rfl, rfl⟩ := q; rfl) I v I1 h1 ⟨rfl, rfl⟩
  · cases h
theorem S_A_goes {d : Nat} (hd : 8 ≤ d) : Snd L X d 118 3 (W_A_goes F_A_goes) := by
  obtain ⟨e, rfl⟩ : ∃ e, d = e + 1 := ⟨d - 1, by omega⟩
  exact w_A_goes ⟨S_A_within (by omega), S_Hours_pass (by omega), S_World_become (by omega), S_World_purses (by omega), trivial⟩
set_option maxRecDepth 100000 in
theorem z_A_hoop : pT[176]? = some (q_A_hoop, 4, 4, 1, 11) := rfl
def W_A_hoop (F : Int32 → Int32 → Int32 → M Int32) : CSem := fun _ args k => match args with
  | [(t0, .ref a0), (_, .int a1), (_, .int a2), (_, .int a3)] => mB (Nat.beq t0 111) <| bn (F a1 a2 a3) fun v => k (some (0, .int v))
  | _ => fl
def cs_A_hoop (f_A_within : Int32 → Int32 → Int32 → M Int32) (f_Riddles_commonDivisor : Int64 → Int64 → M Int64) : List (Nat × Nat × CSem) := [(18, 3, W_A_within f_A_within), (156, 2, W_Riddles_commonDivisor f_Riddles_commonDivisor)]
def F_A_hoop (x1 : Int32) (x2 : Int32) (x3 : Int32) : M (Int32) :=
  bn (F_A_within x1 (1 : Int32) (60 : Int32)) fun v1 =>
  (if v1 = 0 then
    rt (-1 : Int32)
  else
    bn (F_A_within x2 (1 : Int32) (60 : Int32)) fun v2 =>
    (if v2 = 0 then
      rt (-1 : Int32)
    else
      (if x3 = (0 : Int32) then
        bn (F_Riddles_commonDivisor (Int32.toInt64 x1) (Int32.toInt64 x2)) fun v3 =>
        dvI (Int64.toInt32 v3) <|
        rt (x1 / (Int64.toInt32 v3))
      else (if x3 = (1 : Int32) then
        dvI x1 <|
        rt (fmJ (-x2) x1)
      else rt (-1 : Int32)))))
set_option maxRecDepth 4000 in
theorem e_s_A_hoop_0 (f_A_within : Int32 → Int32 → Int32 → M Int32) (f_Riddles_commonDivisor : Int64 → Int64 → M Int64) (x1 : Int32) (x2 : Int32) (x3 : Int32) : wf (β := Int32) L X q_A_hoop 1 (cs_A_hoop f_A_within f_Riddles_commonDivisor) [] [] (fun _ _ _ => fl) (fun v => match v with | some (_, .int x) => rt x | _ => fl) 35 0 [(111, .ref 0), (0, .int x1), (0, .int x2), (0, .int x3)] [] = (bn (f_A_within x1 (1 : Int32) (60 : Int32)) fun v1 =>
  (if v1 = 0 then
    rt (-1 : Int32)
  else
    bn (f_A_within x2 (1 : Int32) (60 : Int32)) fun v2 =>
    (if v2 = 0 then
      rt (-1 : Int32)
    else
      (if x3 = (0 : Int32) then
        bn (f_Riddles_commonDivisor (Int32.toInt64 x1) (Int32.toInt64 x2)) fun v3 =>
        dvI (Int64.toInt32 v3) <|
        rt (x1 / (Int64.toInt32 v3))
      else (if x3 = (1 : Int32) then
        dvI x1 <|
        rt (fmJ (-x2) x1)
      else rt (-1 : Int32)))))) := rfl
theorem s_A_hoop_0 {d : Nat} (hcs : AllS L X d (cs_A_hoop F_A_within F_Riddles_commonDivisor)) (x1 : Int32) (x2 : Int32) (x3 : Int32) {o : Option Value × PH} {Q : (Int32) → MI → Prop} (q0 : ∀ v I, Q v I → o = (some (.int v), HH I)) (I : MI) (r : Int32) (I1 : MI) (h : F_A_hoop x1 x2 x3 I = some (r, I1)) (hq : Q r I1) : At L X (d + 1) 176 0 [(111, .ref 0), (0, .int x1), (0, .int x2), (0, .int x3)] [] I o := by
  refine wf_ok z_A_hoop hcs ?_ ?_ _ _ _ _ _ ⟨rfl, trivial, trivial, trivial, trivial⟩ trivial (unm_refl _ _) ((congrFun (e_s_A_hoop_0 (L := L) (X := X) F_A_within F_Riddles_commonDivisor x1 x2 x3) I).trans h)
  · intro pc ls st I2 h1 h2 h3 h
    cases h
  · intro v I2 _ h
    split at h
    · cases h; exact q0 _ _ hq
    · cases h
theorem w_A_hoop {d : Nat} (hcs : AllS L X d (cs_A_hoop F_A_within F_Riddles_commonDivisor)) : Snd L X (d + 1) 176 4 (W_A_hoop F_A_hoop) := by
  refine ⟨_, z_A_hoop, rfl, fun β args k I r hty hlen h => ?_⟩
  unfold W_A_hoop at h
  split at h
  · rename_i t0 a0 u1 a1 u2 a2 u3 a3
    obtain ⟨hb0, h⟩ := mB_ok h
    have e0 := Nat.eq_of_beq_eq_true hb0
    have g0 : okB 111 a0 = true := e0 ▸ hty.1
    have e20 := one_111 g0
    subst e20
    obtain ⟨v, I1, h1, h2⟩ := bn_some h
    refine ⟨gf_obj (c := 11) (by decide) g0, rfl, some (0, .int v), I1, trivial, ?_, h2⟩
    exact s_A_hoop_0 hcs a1 a2 a3  (Q := fun w I => w = v ∧ I = I1) (fun w I q => by obtain ⟨rfl, rfl⟩ := q; rfl) I v I1 h1 ⟨rfl, rfl⟩
  · cases h
theorem S_A_hoop {d : Nat} (hd : 2 ≤ d) : Snd L X d 176 4 (W_A_hoop F_A_hoop) := by
  obtain ⟨e, rfl⟩ : ∃ e, d = e + 1 := ⟨d - 1, by omega⟩
  exact w_A_hoop ⟨S_A_within (by omega), S_Riddles_commonDivisor (by omega), trivial⟩
set_option maxRecDepth 100000 in
theorem z_A_hours : pT[33]? = some (q_A_hours, 2, 5, 1, 11) := rfl
def W_A_hours (F : Int32 → M Int32) : CSem := fun _ args k => match args with
  | [(t0, .ref a0), (_, .int a1)] => mB (Nat.beq t0 111) <| bn (F a1) fun v => k (some (0, .int v))
  | _ => fl
def cs_A_hours (f_A_keepPast : M Unit) (f_A_within : Int32 → Int32 → Int32 → M Int32) (f_Hours_pass : Nat → M Unit) : List (Nat × Nat × CSem) := [(27, 1, W_A_keepPast f_A_keepPast), (18, 3, W_A_within f_A_within), (34, 1, W_Hours_pass f_Hours_pass)]
def B_A_hours_48 (x1 : Int32) (x3 : Int32) (y : Int32) : M ((Int32) ⊕ (Int32)) :=
  (if y < x1 then
    bn (F_A_keepPast) fun _ =>
    bn (F_Hours_pass 110) fun _ =>
    rt (.inl (y + (1 : Int32)))
  else
    bn (rd 2 3) fun v1 =>
    rt (.inr (v1 - x3)))
set_option maxRecDepth 4000 in
theorem e_b_A_hours_48 (f_A_keepPast : M Unit) (f_A_within : Int32 → Int32 → Int32 → M Int32) (f_Hours_pass : Nat → M Unit) (x1 : Int32) (x3 : Int32) (y : Int32) : wf (β := (Int32) ⊕ (Int32)) L X q_A_hours 1 (cs_A_hours f_A_keepPast f_A_within f_Hours_pass) [4] [48] (fun pc ls st => mC (Nat.beq pc 48) (mN st <| gI ls 4 fun a4 => rt (.inl a4)) (fl)) (fun v => match v with | some (_, .int x) => rt (.inr x) | _ => fl) 47 48 [(111, .ref 0), (0, .int x1), (110, .ref 2), (0, .int x3), (0, .int y)] [] = ((if y < x1 then
    bn (f_A_keepPast) fun _ =>
    bn (f_Hours_pass 110) fun _ =>
    rt (.inl (y + (1 : Int32)))
  else
    bn (rd 2 3) fun v1 =>
    rt (.inr (v1 - x3)))) := rfl
theorem b_A_hours_48 {d : Nat} (hcs : AllS L X d (cs_A_hours F_A_keepPast F_A_within F_Hours_pass)) (x1 : Int32) (x3 : Int32) {o : Option Value × PH} {Q : ((Int32) ⊕ (Int32)) → MI → Prop} (qb : ∀ y I, Q (.inl y) I → At L X (d + 1) 33 48 [(111, .ref 0), (0, .int x1), (110, .ref 2), (0, .int x3), (0, .int y)] [] I o) (qr : ∀ v I, Q (.inr v) I → o = (some (.int v), HH I)) (y : Int32) (I : MI) (r : (Int32) ⊕ (Int32)) (I1 : MI) (h : B_A_hours_48 x1 x3 y I = some (r, I1)) (hq : Q r I1) : At L X (d + 1) 33 48 [(111, .ref 0), (0, .int x1), (110, .ref 2), (0, .int x3), (0, .int y)] [] I o := by
  refine wf_ok z_A_hours hcs ?_ ?_ _ _ _ _ _ ⟨rfl, trivial, rfl, trivial, trivial, trivial⟩ trivial (unm_refl _ _) ((congrFun (e_b_A_hours_48 (L := L) (X := X) F_A_keepPast F_A_within F_Hours_pass x1 x3 y) I).trans h)
  · intro pc ls st I2 h1 h2 h3 h
    rcases mC_ok h with ⟨hb, h⟩ | ⟨_, h⟩
    · have e := Nat.eq_of_beq_eq_true hb
      subst e
      obtain ⟨hst, h⟩ := mN_ok h
      subst hst
      obtain ⟨a4, n4, h⟩ := gI_ok h
      refine at_leaf (ls2 := [(111, .ref 0), (0, .int x1), (110, .ref 2), (0, .int x3), (0, .int a4)]) h3.1 ⟨Or.inr ⟨_, (h3.2 0 rfl).trans rfl⟩, Or.inr ⟨_, (h3.2 1 rfl).trans rfl⟩, Or.inr ⟨_, (h3.2 2 rfl).trans rfl⟩, Or.inr ⟨_, (h3.2 3 rfl).trans rfl⟩, Or.inr n4, trivial⟩ ?_
      cases h; exact qb _ _ hq
    cases h
  · intro v I2 _ h
    split at h
    · cases h; exact qr _ _ hq
    · cases h
def K_A_hours_48 (x1 : Int32) (x3 : Int32) (x4 : Int32) : M (Int32) :=
  lp (B_A_hours_48 x1 x3) FU x4
theorem s_A_hours_48 {d : Nat} (hcs : AllS L X d (cs_A_hours F_A_keepPast F_A_within F_Hours_pass)) (x1 : Int32) (x3 : Int32) (x4 : Int32) {o : Option Value × PH} {Q : (Int32) → MI → Prop} (q0 : ∀ v I, Q v I → o = (some (.int v), HH I)) (I : MI) (r : Int32) (I1 : MI) (h : K_A_hours_48 x1 x3 x4 I = some (r, I1)) (hq : Q r I1) : At L X (d + 1) 33 48 [(111, .ref 0), (0, .int x1), (110, .ref 2), (0, .int x3), (0, .int x4)] [] I o := by
  unfold K_A_hours_48 at h
  have w0 := fun w => at_lp (body := B_A_hours_48 x1 x3) (P := (fun (y : Int32) I => At L X (d + 1) 33 48 [(111, .ref 0), (0, .int x1), (110, .ref 2), (0, .int x3), (0, .int y)] [] I o)) (Q := (fun (e : Int32) I => Q e I)) w FU x4 I r I1 h hq
  refine w0 ?_
  intro y I r I1 h hq
  exact b_A_hours_48 hcs x1 x3 (Q := SQ (fun (y : Int32) I => At L X (d + 1) 33 48 [(111, .ref 0), (0, .int x1), (110, .ref 2), (0, .int x3), (0, .int y)] [] I o) (fun (e : Int32) I => Q e I)) (fun _ _ w => w) q0 y I r I1 h hq
def F_A_hours (x1 : Int32) : M (Int32) :=
  bn (F_A_within x1 (1 : Int32) (60 : Int32)) fun v1 =>
  (if v1 = 0 then
    rt (-1 : Int32)
  else
    bn (rd 2 5) fun v2 =>
    bn (rd 2 4) fun v3 =>
    dvI (24 : Int32) <|
    (if (990 : Int32) < (v2 + ((v3 + x1) / (24 : Int32))) then
      rt (-1 : Int32)
    else
      bn (rd 2 3) fun v4 =>
      K_A_hours_48 x1 v4 (0 : Int32)))
set_option maxRecDepth 4000 in
theorem e_s_A_hours_0 (f_A_keepPast : M Unit) (f_A_within : Int32 → Int32 → Int32 → M Int32) (f_Hours_pass : Nat → M Unit) (k_48 : Int32 → Int32 → Int32 → M (Int32)) (x1 : Int32) : wf (β := Int32) L X q_A_hours 1 (cs_A_hours f_A_keepPast f_A_within f_Hours_pass) [2, 3, 4] [48] (fun pc ls st => mC (Nat.beq pc 48) (mN st <| gC ls 2 110 2 <| gI ls 3 fun a3 => gI ls 4 fun a4 => k_48 x1 a3 a4) (fl)) (fun v => match v with | some (_, .int x) => rt x | _ => fl) 47 0 [(111, .ref 0), (0, .int x1), (0, dV), (0, dV), (0, dV)] [] = (bn (f_A_within x1 (1 : Int32) (60 : Int32)) fun v1 =>
  (if v1 = 0 then
    rt (-1 : Int32)
  else
    bn (rd 2 5) fun v2 =>
    bn (rd 2 4) fun v3 =>
    dvI (24 : Int32) <|
    (if (990 : Int32) < (v2 + ((v3 + x1) / (24 : Int32))) then
      rt (-1 : Int32)
    else
      bn (rd 2 3) fun v4 =>
      k_48 x1 v4 (0 : Int32)))) := rfl
theorem s_A_hours_0 {d : Nat} (hcs : AllS L X d (cs_A_hours F_A_keepPast F_A_within F_Hours_pass)) (x1 : Int32) {o : Option Value × PH} {Q : (Int32) → MI → Prop} (q0 : ∀ v I, Q v I → o = (some (.int v), HH I)) (I : MI) (r : Int32) (I1 : MI) (h : F_A_hours x1 I = some (r, I1)) (hq : Q r I1) : At L X (d + 1) 33 0 [(111, .ref 0), (0, .int x1), (0, dV), (0, dV), (0, dV)] [] I o := by
  refine wf_ok z_A_hours hcs ?_ ?_ _ _ _ _ _ ⟨rfl, trivial, trivial, trivial, trivial, trivial⟩ trivial (unm_refl _ _) ((congrFun (e_s_A_hours_0 (L := L) (X := X) F_A_keepPast F_A_within F_Hours_pass K_A_hours_48 x1) I).trans h)
  · intro pc ls st I2 h1 h2 h3 h
    rcases mC_ok h with ⟨hb, h⟩ | ⟨_, h⟩
    · have e := Nat.eq_of_beq_eq_true hb
      subst e
      obtain ⟨hst, h⟩ := mN_ok h
      subst hst
      obtain ⟨n2, h⟩ := gC_ok h
      obtain ⟨a3, n3, h⟩ := gI_ok h
      obtain ⟨a4, n4, h⟩ := gI_ok h
      refine at_leaf (ls2 := [(111, .ref 0), (0, .int x1), (110, .ref 2), (0, .int a3), (0, .int a4)]) h3.1 ⟨Or.inr ⟨_, (h3.2 0 rfl).trans rfl⟩, Or.inr ⟨_, (h3.2 1 rfl).trans rfl⟩, Or.inr n2, Or.inr n3, Or.inr n4, trivial⟩ ?_
      exact s_A_hours_48 hcs x1 a3 a4 q0 _ _ _ h hq
    cases h
  · intro v I2 _ h
    split at h
    · cases h; exact q0 _ _ hq
    · cases h
theorem w_A_hours {d : Nat} (hcs : AllS L X d (cs_A_hours F_A_keepPast F_A_within F_Hours_pass)) : Snd L X (d + 1) 33 2 (W_A_hours F_A_hours) := by
  refine ⟨_, z_A_hours, rfl, fun β args k I r hty hlen h => ?_⟩
  unfold W_A_hours at h
  split at h
  · rename_i t0 a0 u1 a1
    obtain ⟨hb0, h⟩ := mB_ok h
    have e0 := Nat.eq_of_beq_eq_true hb0
    have g0 : okB 111 a0 = true := e0 ▸ hty.1
    have e20 := one_111 g0
    subst e20
    obtain ⟨v, I1, h1, h2⟩ := bn_some h
    refine ⟨gf_obj (c := 11) (by decide) g0, rfl, some (0, .int v), I1, trivial, ?_, h2⟩
    exact s_A_hours_0 hcs a1  (Q := fun w I => w = v ∧ I = I1) (fun w I q => by obtain ⟨rfl, rfl⟩ := q; rfl) I v I1 h1 ⟨rfl, rfl⟩
  · cases h
theorem S_A_hours {d : Nat} (hd : 8 ≤ d) : Snd L X d 33 2 (W_A_hours F_A_hours) := by
  obtain ⟨e, rfl⟩ : ∃ e, d = e + 1 := ⟨d - 1, by omega⟩
  exact w_A_hours ⟨S_A_keepPast (by omega), S_A_within (by omega), S_Hours_pass (by omega), trivial⟩
set_option maxRecDepth 100000 in
theorem z_Book_become : pT[187]? = some (q_Book_become, 2, 2, 0, 0) := rfl
def W_Book_become (F : Nat → Nat → M Unit) : CSem := fun _ args k => match args with
  | [(t0, .ref a0), (t1, .ref a1)] => mB (Nat.beq t0 100) <| mB (Nat.beq t1 100) <| bn (F a0 a1) fun _ => k none
  | _ => fl
def cs_Book_become : List (Nat × Nat × CSem) := []
def F_Book_become (r0 : Nat) (r1 : Nat) : M (Unit) :=
  bn (cpM 750 750 (r1 + 1) (0 : Int32) (r0 + 1) (0 : Int32) (Int32.ofNat 750)) fun _ =>
  rt ()
set_option maxRecDepth 4000 in
theorem e_s_Book_become_0 (r0 : Nat) (r1 : Nat) : wf (β := Unit) L X q_Book_become 0 cs_Book_become [] [] (fun _ _ _ => fl) (fun v => match v with | none => rt () | _ => fl) 16 0 [(100, .ref r0), (100, .ref r1)] [] = (bn (cpM 750 750 (r1 + 1) (0 : Int32) (r0 + 1) (0 : Int32) (Int32.ofNat 750)) fun _ =>
  rt ()) := rfl
theorem s_Book_become_0 {d : Nat} (hcs : AllS L X d cs_Book_become) (r0 : Nat) (r1 : Nat) (t0 : okB 100 r0 = true) (t1 : okB 100 r1 = true) {o : Option Value × PH} {Q : (Unit) → MI → Prop} (q0 : ∀ v I, Q v I → o = (none, HH I)) (I : MI) (r : Unit) (I1 : MI) (h : F_Book_become r0 r1 I = some (r, I1)) (hq : Q r I1) : At L X (d + 1) 187 0 [(100, .ref r0), (100, .ref r1)] [] I o := by
  refine wf_ok z_Book_become hcs ?_ ?_ _ _ _ _ _ ⟨t0, t1, trivial⟩ trivial (unm_refl _ _) ((congrFun (e_s_Book_become_0 (L := L) (X := X) r0 r1) I).trans h)
  · intro pc ls st I2 h1 h2 h3 h
    cases h
  · intro v I2 _ h
    split at h
    · cases h; exact q0 _ _ hq
    · cases h
theorem w_Book_become {d : Nat} (hcs : AllS L X d cs_Book_become) : Snd L X (d + 1) 187 2 (W_Book_become F_Book_become) := by
  refine ⟨_, z_Book_become, rfl, fun β args k I r hty hlen h => ?_⟩
  unfold W_Book_become at h
  split at h
  · rename_i t0 a0 t1 a1
    obtain ⟨hb0, h⟩ := mB_ok h
    have e0 := Nat.eq_of_beq_eq_true hb0
    have g0 : okB 100 a0 = true := e0 ▸ hty.1
    obtain ⟨hb1, h⟩ := mB_ok h
    have e1 := Nat.eq_of_beq_eq_true hb1
    have g1 : okB 100 a1 = true := e1 ▸ hty.2.1
    obtain ⟨v, I1, h1, h2⟩ := bn_some h
    refine ⟨gf_obj (c := 0) (by decide) g0, rfl, none, I1, trivial, ?_, h2⟩
    exact s_Book_become_0 hcs a0 a1 g0 g1 (Q := fun w I => w = v ∧ I = I1) (fun w I q => by obtain ⟨rfl, rfl⟩ := q; rfl) I v I1 h1 ⟨rfl, rfl⟩
  · cases h
theorem S_Book_become {d : Nat} (hd : 1 ≤ d) : Snd L X d 187 2 (W_Book_become F_Book_become) := by
  obtain ⟨e, rfl⟩ : ∃ e, d = e + 1 := ⟨d - 1, by omega⟩
  exact w_Book_become trivial
set_option maxRecDepth 100000 in
theorem z_Table_become : pT[109]? = some (q_Table_become, 2, 2, 0, 8) := rfl
def W_Table_become (F : Nat → Nat → M Unit) : CSem := fun _ args k => match args with
  | [(t0, .ref a0), (t1, .ref a1)] => mB (Nat.beq t0 108) <| mB (Nat.beq t1 108) <| bn (F a0 a1) fun _ => k none
  | _ => fl
def cs_Table_become : List (Nat × Nat × CSem) := []
def F_Table_become (r0 : Nat) (r1 : Nat) : M (Unit) :=
  (if (Int32.ofNat (siz shT (r1 + 1))) = (Int32.ofNat (siz shT (r0 + 1))) then
    bn (rd r1 3) fun v1 =>
    bn (wr r0 3 v1) fun _ =>
    bn (rd r0 3) fun v2 =>
    bn (rd r0 0) fun v3 =>
    bn (cpM (siz shT (r1 + 1)) (siz shT (r0 + 1)) (r1 + 1) (0 : Int32) (r0 + 1) (0 : Int32) (v2 * v3)) fun _ =>
    rt ()
  else
    rt ())
set_option maxRecDepth 4000 in
theorem e_s_Table_become_0 (r0 : Nat) (r1 : Nat) : wf (β := Unit) L X q_Table_become 0 cs_Table_become [] [] (fun _ _ _ => fl) (fun v => match v with | none => rt () | _ => fl) 30 0 [(108, .ref r0), (108, .ref r1)] [] = ((if (Int32.ofNat (siz shT (r1 + 1))) = (Int32.ofNat (siz shT (r0 + 1))) then
    bn (rd r1 3) fun v1 =>
    bn (wr r0 3 v1) fun _ =>
    bn (rd r0 3) fun v2 =>
    bn (rd r0 0) fun v3 =>
    bn (cpM (siz shT (r1 + 1)) (siz shT (r0 + 1)) (r1 + 1) (0 : Int32) (r0 + 1) (0 : Int32) (v2 * v3)) fun _ =>
    rt ()
  else
    rt ())) := rfl
theorem s_Table_become_0 {d : Nat} (hcs : AllS L X d cs_Table_become) (r0 : Nat) (r1 : Nat) (t0 : okB 108 r0 = true) (t1 : okB 108 r1 = true) {o : Option Value × PH} {Q : (Unit) → MI → Prop} (q0 : ∀ v I, Q v I → o = (none, HH I)) (I : MI) (r : Unit) (I1 : MI) (h : F_Table_become r0 r1 I = some (r, I1)) (hq : Q r I1) : At L X (d + 1) 109 0 [(108, .ref r0), (108, .ref r1)] [] I o := by
  refine wf_ok z_Table_become hcs ?_ ?_ _ _ _ _ _ ⟨t0, t1, trivial⟩ trivial (unm_refl _ _) ((congrFun (e_s_Table_become_0 (L := L) (X := X) r0 r1) I).trans h)
  · intro pc ls st I2 h1 h2 h3 h
    cases h
  · intro v I2 _ h
    split at h
    · cases h; exact q0 _ _ hq
    · cases h
theorem w_Table_become {d : Nat} (hcs : AllS L X d cs_Table_become) : Snd L X (d + 1) 109 2 (W_Table_become F_Table_become) := by
  refine ⟨_, z_Table_become, rfl, fun β args k I r hty hlen h => ?_⟩
  unfold W_Table_become at h
  split at h
  · rename_i t0 a0 t1 a1
    obtain ⟨hb0, h⟩ := mB_ok h
    have e0 := Nat.eq_of_beq_eq_true hb0
    have g0 : okB 108 a0 = true := e0 ▸ hty.1
    obtain ⟨hb1, h⟩ := mB_ok h
    have e1 := Nat.eq_of_beq_eq_true hb1
    have g1 : okB 108 a1 = true := e1 ▸ hty.2.1
    obtain ⟨v, I1, h1, h2⟩ := bn_some h
    refine ⟨gf_obj (c := 8) (by decide) g0, rfl, none, I1, trivial, ?_, h2⟩
    exact s_Table_become_0 hcs a0 a1 g0 g1 (Q := fun w I => w = v ∧ I = I1) (fun w I q => by obtain ⟨rfl, rfl⟩ := q; rfl) I v I1 h1 ⟨rfl, rfl⟩
  · cases h
theorem S_Table_become {d : Nat} (hd : 1 ≤ d) : Snd L X d 109 2 (W_Table_become F_Table_become) := by
  obtain ⟨e, rfl⟩ : ∃ e, d = e + 1 := ⟨d - 1, by omega⟩
  exact w_Table_become trivial
set_option maxRecDepth 100000 in
theorem z_Law_become : pT[108]? = some (q_Law_become, 2, 2, 0, 2) := rfl
def W_Law_become (F : Nat → Nat → M Unit) : CSem := fun _ args k => match args with
  | [(t0, .ref a0), (t1, .ref a1)] => mB (Nat.beq t0 102) <| mB (Nat.beq t1 102) <| bn (F a0 a1) fun _ => k none
  | _ => fl
def cs_Law_become (f_Table_become : Nat → Nat → M Unit) : List (Nat × Nat × CSem) := [(109, 2, W_Table_become f_Table_become)]
def F_Law_become (r0 : Nat) (r1 : Nat) : M (Unit) :=
  bn (F_Table_become (r0 + 1) (r1 + 1)) fun _ =>
  bn (rd r1 1) fun v1 =>
  bn (wr r0 1 v1) fun _ =>
  bn (cpM 400 400 (r1 + 3) (0 : Int32) (r0 + 3) (0 : Int32) (Int32.ofNat 400)) fun _ =>
  rt ()
set_option maxRecDepth 4000 in
theorem e_s_Law_become_0 (f_Table_become : Nat → Nat → M Unit) (r0 : Nat) (r1 : Nat) : wf (β := Unit) L X q_Law_become 0 (cs_Law_become f_Table_become) [] [] (fun _ _ _ => fl) (fun v => match v with | none => rt () | _ => fl) 25 0 [(102, .ref r0), (102, .ref r1)] [] = (bn (f_Table_become (r0 + 1) (r1 + 1)) fun _ =>
  bn (rd r1 1) fun v1 =>
  bn (wr r0 1 v1) fun _ =>
  bn (cpM 400 400 (r1 + 3) (0 : Int32) (r0 + 3) (0 : Int32) (Int32.ofNat 400)) fun _ =>
  rt ()) := rfl
theorem s_Law_become_0 {d : Nat} (hcs : AllS L X d (cs_Law_become F_Table_become)) (r0 : Nat) (r1 : Nat) (t0 : okB 102 r0 = true) (t1 : okB 102 r1 = true) {o : Option Value × PH} {Q : (Unit) → MI → Prop} (q0 : ∀ v I, Q v I → o = (none, HH I)) (I : MI) (r : Unit) (I1 : MI) (h : F_Law_become r0 r1 I = some (r, I1)) (hq : Q r I1) : At L X (d + 1) 108 0 [(102, .ref r0), (102, .ref r1)] [] I o := by
  refine wf_ok z_Law_become hcs ?_ ?_ _ _ _ _ _ ⟨t0, t1, trivial⟩ trivial (unm_refl _ _) ((congrFun (e_s_Law_become_0 (L := L) (X := X) F_Table_become r0 r1) I).trans h)
  · intro pc ls st I2 h1 h2 h3 h
    cases h
  · intro v I2 _ h
    split at h
    · cases h; exact q0 _ _ hq
    · cases h
theorem w_Law_become {d : Nat} (hcs : AllS L X d (cs_Law_become F_Table_become)) : Snd L X (d + 1) 108 2 (W_Law_become F_Law_become) := by
  refine ⟨_, z_Law_become, rfl, fun β args k I r hty hlen h => ?_⟩
  unfold W_Law_become at h
  split at h
  · rename_i t0 a0 t1 a1
    obtain ⟨hb0, h⟩ := mB_ok h
    have e0 := Nat.eq_of_beq_eq_true hb0
    have g0 : okB 102 a0 = true := e0 ▸ hty.1
    obtain ⟨hb1, h⟩ := mB_ok h
    have e1 := Nat.eq_of_beq_eq_true hb1
    have g1 : okB 102 a1 = true := e1 ▸ hty.2.1
    obtain ⟨v, I1, h1, h2⟩ := bn_some h
    refine ⟨gf_obj (c := 2) (by decide) g0, rfl, none, I1, trivial, ?_, h2⟩
    exact s_Law_become_0 hcs a0 a1 g0 g1 (Q := fun w I => w = v ∧ I = I1) (fun w I q => by obtain ⟨rfl, rfl⟩ := q; rfl) I v I1 h1 ⟨rfl, rfl⟩
  · cases h
theorem S_Law_become {d : Nat} (hd : 2 ≤ d) : Snd L X d 108 2 (W_Law_become F_Law_become) := by
  obtain ⟨e, rfl⟩ : ∃ e, d = e + 1 := ⟨d - 1, by omega⟩
  exact w_Law_become ⟨S_Table_become (by omega), trivial⟩
set_option maxRecDepth 100000 in
theorem z_Texts_table : pT[78]? = some (q_Texts_table, 2, 2, 4, 9) := rfl
def W_Texts_table (F : Nat → Int32 → M Nat) : CSem := fun _ args k => match args with
  | [(t0, .ref a0), (_, .int a1)] => mB (Nat.beq t0 109) <| bn (F a0 a1) fun v => k (some (108, .ref v))
  | _ => fl
def cs_Texts_table : List (Nat × Nat × CSem) := []
def F_Texts_table (r0 : Nat) (x1 : Int32) : M (Nat) :=
  (if x1 = (1 : Int32) then
    rt (r0 + 6)
  else
    (if x1 = (2 : Int32) then
      rt (r0 + 8)
    else
      rt (r0 + 10)))
set_option maxRecDepth 4000 in
theorem e_s_Texts_table_0 (r0 : Nat) (x1 : Int32) : wf (β := Nat) L X q_Texts_table 4 cs_Texts_table [] [] (fun _ _ _ => fl) (fun v => match v with | some (t, .ref x) => rt x | _ => fl) 20 0 [(109, .ref r0), (0, .int x1)] [] = ((if x1 = (1 : Int32) then
    rt (r0 + 6)
  else
    (if x1 = (2 : Int32) then
      rt (r0 + 8)
    else
      rt (r0 + 10)))) := rfl
theorem s_Texts_table_0 {d : Nat} (hcs : AllS L X d cs_Texts_table) (r0 : Nat) (x1 : Int32) (t0 : okB 109 r0 = true) {o : Option Value × PH} {Q : (Nat) → MI → Prop} (q0 : ∀ v I, Q v I → o = (some (.ref v), HH I)) (I : MI) (r : Nat) (I1 : MI) (h : F_Texts_table r0 x1 I = some (r, I1)) (hq : Q r I1) : At L X (d + 1) 78 0 [(109, .ref r0), (0, .int x1)] [] I o := by
  refine wf_ok z_Texts_table hcs ?_ ?_ _ _ _ _ _ ⟨t0, trivial, trivial⟩ trivial (unm_refl _ _) ((congrFun (e_s_Texts_table_0 (L := L) (X := X) r0 x1) I).trans h)
  · intro pc ls st I2 h1 h2 h3 h
    cases h
  · intro v I2 _ h
    split at h
    · cases h; exact q0 _ _ hq
    · cases h
theorem tab_all : ([15, 61, 94] : List Nat).all (fun a => okB 108 (a + 6) && okB 108 (a + 8) && okB 108 (a + 10)) = true := by decide +kernel
theorem tab_ok {a : Nat} (h : okB 109 a = true) : okB 108 (a + 6) = true ∧ okB 108 (a + 8) = true ∧ okB 108 (a + 10) = true := by
  rw [okB_obj (c := 9) (by decide), memN_iff] at h
  have h2 := List.all_eq_true.mp tab_all a h
  simp only [Bool.and_eq_true] at h2
  exact ⟨h2.1.1, h2.1.2, h2.2⟩
theorem ret_Texts_table {r0 : Nat} {x1 : Int32} {I I1 : MI} {v : Nat} (g : okB 109 r0 = true) (h : F_Texts_table r0 x1 I = some (v, I1)) : okB 108 v = true := by
  obtain ⟨g1, g2, g3⟩ := tab_ok g
  unfold F_Texts_table at h
  split at h
  · cases h; exact g1
  · split at h
    · cases h; exact g2
    · cases h; exact g3
theorem w_Texts_table {d : Nat} (hcs : AllS L X d cs_Texts_table) : Snd L X (d + 1) 78 2 (W_Texts_table F_Texts_table) := by
  refine ⟨_, z_Texts_table, rfl, fun β args k I r hty hlen h => ?_⟩
  unfold W_Texts_table at h
  split at h
  · rename_i t0 a0 u1 a1
    obtain ⟨hb0, h⟩ := mB_ok h
    have e0 := Nat.eq_of_beq_eq_true hb0
    have g0 : okB 109 a0 = true := e0 ▸ hty.1
    obtain ⟨v, I1, h1, h2⟩ := bn_some h
    refine ⟨gf_obj (c := 9) (by decide) g0, rfl, some (108, .ref v), I1, ret_Texts_table g0 h1, ?_, h2⟩
    exact s_Texts_table_0 hcs a0 a1 g0 (Q := fun w I => w = v ∧ I = I1) (fun w I q => by obtain ⟨rfl, rfl⟩ := q; rfl) I v I1 h1 ⟨rfl, rfl⟩
  · cases h
theorem S_Texts_table {d : Nat} (hd : 1 ≤ d) : Snd L X d 78 2 (W_Texts_table F_Texts_table) := by
  obtain ⟨e, rfl⟩ : ∃ e, d = e + 1 := ⟨d - 1, by omega⟩
  exact w_Texts_table trivial
set_option maxRecDepth 100000 in
theorem z_Texts_take : pT[107]? = some (q_Texts_take, 3, 3, 1, 9) := rfl
def W_Texts_take (F : Nat → Int32 → Nat → M Int32) : CSem := fun _ args k => match args with
  | [(t0, .ref a0), (_, .int a1), (t2, .ref a2)] => mB (Nat.beq t0 109) <| mB (Nat.beq t2 109) <| bn (F a0 a1 a2) fun v => k (some (0, .int v))
  | _ => fl
def cs_Texts_take (f_Law_become : Nat → Nat → M Unit) (f_Table_become : Nat → Nat → M Unit) (f_Texts_table : Nat → Int32 → M Nat) : List (Nat × Nat × CSem) := [(108, 2, W_Law_become f_Law_become), (109, 2, W_Table_become f_Table_become), (78, 2, W_Texts_table f_Texts_table)]
def F_Texts_take (r0 : Nat) (x1 : Int32) (r2 : Nat) : M (Int32) :=
  (if x1 = 0 then
    bn (F_Law_become (r0 + 1) (r2 + 1)) fun _ =>
    bn (rd ((r0 + 1) + 1) 3) fun v5 =>
    rt v5
  else
    bn (F_Texts_table r0 x1) fun v1 =>
    bn (F_Texts_table r2 x1) fun v2 =>
    bn (F_Table_become v1 v2) fun _ =>
    bn (F_Texts_table r0 x1) fun v3 =>
    bn (rd v3 3) fun v4 =>
    rt v4)
set_option maxRecDepth 4000 in
theorem e_s_Texts_take_0 (f_Law_become : Nat → Nat → M Unit) (f_Table_become : Nat → Nat → M Unit) (f_Texts_table : Nat → Int32 → M Nat) (r0 : Nat) (x1 : Int32) (r2 : Nat) : wf (β := Int32) L X q_Texts_take 1 (cs_Texts_take f_Law_become f_Table_become f_Texts_table) [] [] (fun _ _ _ => fl) (fun v => match v with | some (_, .int x) => rt x | _ => fl) 29 0 [(109, .ref r0), (0, .int x1), (109, .ref r2)] [] = ((if x1 = 0 then
    bn (f_Law_become (r0 + 1) (r2 + 1)) fun _ =>
    bn (rd ((r0 + 1) + 1) 3) fun v5 =>
    rt v5
  else
    bn (f_Texts_table r0 x1) fun v1 =>
    bn (f_Texts_table r2 x1) fun v2 =>
    bn (f_Table_become v1 v2) fun _ =>
    bn (f_Texts_table r0 x1) fun v3 =>
    bn (rd v3 3) fun v4 =>
    rt v4)) := rfl
theorem s_Texts_take_0 {d : Nat} (hcs : AllS L X d (cs_Texts_take F_Law_become F_Table_become F_Texts_table)) (r0 : Nat) (x1 : Int32) (r2 : Nat) (t0 : okB 109 r0 = true) (t2 : okB 109 r2 = true) {o : Option Value × PH} {Q : (Int32) → MI → Prop} (q0 : ∀ v I, Q v I → o = (some (.int v), HH I)) (I : MI) (r : Int32) (I1 : MI) (h : F_Texts_take r0 x1 r2 I = some (r, I1)) (hq : Q r I1) : At L X (d + 1) 107 0 [(109, .ref r0), (0, .int x1), (109, .ref r2)] [] I o := by
  refine wf_ok z_Texts_take hcs ?_ ?_ _ _ _ _ _ ⟨t0, trivial, t2, trivial⟩ trivial (unm_refl _ _) ((congrFun (e_s_Texts_take_0 (L := L) (X := X) F_Law_become F_Table_become F_Texts_table r0 x1 r2) I).trans h)
  · intro pc ls st I2 h1 h2 h3 h
    cases h
  · intro v I2 _ h
    split at h
    · cases h; exact q0 _ _ hq
    · cases h
theorem w_Texts_take {d : Nat} (hcs : AllS L X d (cs_Texts_take F_Law_become F_Table_become F_Texts_table)) : Snd L X (d + 1) 107 3 (W_Texts_take F_Texts_take) := by
  refine ⟨_, z_Texts_take, rfl, fun β args k I r hty hlen h => ?_⟩
  unfold W_Texts_take at h
  split at h
  · rename_i t0 a0 u1 a1 t2 a2
    obtain ⟨hb0, h⟩ := mB_ok h
    have e0 := Nat.eq_of_beq_eq_true hb0
    have g0 : okB 109 a0 = true := e0 ▸ hty.1
    obtain ⟨hb2, h⟩ := mB_ok h
    have e2 := Nat.eq_of_beq_eq_true hb2
    have g2 : okB 109 a2 = true := e2 ▸ hty.2.2.1
    obtain ⟨v, I1, h1, h2⟩ := bn_some h
    refine ⟨gf_obj (c := 9) (by decide) g0, rfl, some (0, .int v), I1, trivial, ?_, h2⟩
    exact s_Texts_take_0 hcs a0 a1 a2 g0 g2 (Q := fun w I => w = v ∧ I = I1) (fun w I q => by obtain ⟨rfl, rfl⟩ := q; rfl) I v I1 h1 ⟨rfl, rfl⟩
  · cases h
theorem S_Texts_take {d : Nat} (hd : 3 ≤ d) : Snd L X d 107 3 (W_Texts_take F_Texts_take) := by
  obtain ⟨e, rfl⟩ : ∃ e, d = e + 1 := ⟨d - 1, by omega⟩
  exact w_Texts_take ⟨S_Law_become (by omega), S_Table_become (by omega), S_Texts_table (by omega), trivial⟩
set_option maxRecDepth 100000 in
theorem z_Texts_become : pT[188]? = some (q_Texts_become, 2, 3, 0, 9) := rfl
def W_Texts_become (F : Nat → Nat → M Unit) : CSem := fun _ args k => match args with
  | [(t0, .ref a0), (t1, .ref a1)] => mB (Nat.beq t0 109) <| mB (Nat.beq t1 109) <| bn (F a0 a1) fun _ => k none
  | _ => fl
def cs_Texts_become (f_Texts_take : Nat → Int32 → Nat → M Int32) : List (Nat × Nat × CSem) := [(107, 3, W_Texts_take f_Texts_take)]
def B_Texts_become_2 (r0 : Nat) (r1 : Nat) (y : Int32) : M ((Int32) ⊕ (Unit)) :=
  (if (3 : Int32) < y then
    rt (.inr ())
  else
    bn (F_Texts_take r0 y r1) fun v1 =>
    rt (.inl (y + (1 : Int32))))
set_option maxRecDepth 4000 in
theorem e_b_Texts_become_2 (f_Texts_take : Nat → Int32 → Nat → M Int32) (r0 : Nat) (r1 : Nat) (y : Int32) : wf (β := (Int32) ⊕ (Unit)) L X q_Texts_become 0 (cs_Texts_become f_Texts_take) [2] [2] (fun pc ls st => mC (Nat.beq pc 2) (mN st <| gI ls 2 fun a2 => rt (.inl a2)) (fl)) (fun v => match v with | none => rt (.inr ()) | _ => fl) 18 2 [(109, .ref r0), (109, .ref r1), (0, .int y)] [] = ((if (3 : Int32) < y then
    rt (.inr ())
  else
    bn (f_Texts_take r0 y r1) fun v1 =>
    rt (.inl (y + (1 : Int32))))) := rfl
theorem b_Texts_become_2 {d : Nat} (hcs : AllS L X d (cs_Texts_become F_Texts_take)) (r0 : Nat) (r1 : Nat) (t0 : okB 109 r0 = true) (t1 : okB 109 r1 = true) {o : Option Value × PH} {Q : ((Int32) ⊕ (Unit)) → MI → Prop} (qb : ∀ y I, Q (.inl y) I → At L X (d + 1) 188 2 [(109, .ref r0), (109, .ref r1), (0, .int y)] [] I o) (qr : ∀ v I, Q (.inr v) I → o = (none, HH I)) (y : Int32) (I : MI) (r : (Int32) ⊕ (Unit)) (I1 : MI) (h : B_Texts_become_2 r0 r1 y I = some (r, I1)) (hq : Q r I1) : At L X (d + 1) 188 2 [(109, .ref r0), (109, .ref r1), (0, .int y)] [] I o := by
  refine wf_ok z_Texts_become hcs ?_ ?_ _ _ _ _ _ ⟨t0, t1, trivial, trivial⟩ trivial (unm_refl _ _) ((congrFun (e_b_Texts_become_2 (L := L) (X := X) F_Texts_take r0 r1 y) I).trans h)
  · intro pc ls st I2 h1 h2 h3 h
    rcases mC_ok h with ⟨hb, h⟩ | ⟨_, h⟩
    · have e := Nat.eq_of_beq_eq_true hb
      subst e
      obtain ⟨hst, h⟩ := mN_ok h
      subst hst
      obtain ⟨a2, n2, h⟩ := gI_ok h
      refine at_leaf (ls2 := [(109, .ref r0), (109, .ref r1), (0, .int a2)]) h3.1 ⟨Or.inr ⟨_, (h3.2 0 rfl).trans rfl⟩, Or.inr ⟨_, (h3.2 1 rfl).trans rfl⟩, Or.inr n2, trivial⟩ ?_
      cases h; exact qb _ _ hq
    cases h
  · intro v I2 _ h
    split at h
    · cases h; exact qr _ _ hq
    · cases h
def K_Texts_become_2 (r0 : Nat) (r1 : Nat) (x2 : Int32) : M (Unit) :=
  lp (B_Texts_become_2 r0 r1) FU x2
theorem s_Texts_become_2 {d : Nat} (hcs : AllS L X d (cs_Texts_become F_Texts_take)) (r0 : Nat) (r1 : Nat) (x2 : Int32) (t0 : okB 109 r0 = true) (t1 : okB 109 r1 = true) {o : Option Value × PH} {Q : (Unit) → MI → Prop} (q0 : ∀ v I, Q v I → o = (none, HH I)) (I : MI) (r : Unit) (I1 : MI) (h : K_Texts_become_2 r0 r1 x2 I = some (r, I1)) (hq : Q r I1) : At L X (d + 1) 188 2 [(109, .ref r0), (109, .ref r1), (0, .int x2)] [] I o := by
  unfold K_Texts_become_2 at h
  have w0 := fun w => at_lp (body := B_Texts_become_2 r0 r1) (P := (fun (y : Int32) I => At L X (d + 1) 188 2 [(109, .ref r0), (109, .ref r1), (0, .int y)] [] I o)) (Q := (fun (e : Unit) I => Q e I)) w FU x2 I r I1 h hq
  refine w0 ?_
  intro y I r I1 h hq
  exact b_Texts_become_2 hcs r0 r1 t0 t1 (Q := SQ (fun (y : Int32) I => At L X (d + 1) 188 2 [(109, .ref r0), (109, .ref r1), (0, .int y)] [] I o) (fun (e : Unit) I => Q e I)) (fun _ _ w => w) q0 y I r I1 h hq
def F_Texts_become (r0 : Nat) (r1 : Nat) : M (Unit) :=
  K_Texts_become_2 r0 r1 (0 : Int32)
set_option maxRecDepth 4000 in
theorem e_s_Texts_become_0 (f_Texts_take : Nat → Int32 → Nat → M Int32) (k_2 : Nat → Nat → Int32 → M (Unit)) (r0 : Nat) (r1 : Nat) : wf (β := Unit) L X q_Texts_become 0 (cs_Texts_become f_Texts_take) [2] [2] (fun pc ls st => mC (Nat.beq pc 2) (mN st <| gI ls 2 fun a2 => k_2 r0 r1 a2) (fl)) (fun v => match v with | none => rt () | _ => fl) 18 0 [(109, .ref r0), (109, .ref r1), (0, dV)] [] = (k_2 r0 r1 (0 : Int32)) := rfl
theorem s_Texts_become_0 {d : Nat} (hcs : AllS L X d (cs_Texts_become F_Texts_take)) (r0 : Nat) (r1 : Nat) (t0 : okB 109 r0 = true) (t1 : okB 109 r1 = true) {o : Option Value × PH} {Q : (Unit) → MI → Prop} (q0 : ∀ v I, Q v I → o = (none, HH I)) (I : MI) (r : Unit) (I1 : MI) (h : F_Texts_become r0 r1 I = some (r, I1)) (hq : Q r I1) : At L X (d + 1) 188 0 [(109, .ref r0), (109, .ref r1), (0, dV)] [] I o := by
  refine wf_ok z_Texts_become hcs ?_ ?_ _ _ _ _ _ ⟨t0, t1, trivial, trivial⟩ trivial (unm_refl _ _) ((congrFun (e_s_Texts_become_0 (L := L) (X := X) F_Texts_take K_Texts_become_2 r0 r1) I).trans h)
  · intro pc ls st I2 h1 h2 h3 h
    rcases mC_ok h with ⟨hb, h⟩ | ⟨_, h⟩
    · have e := Nat.eq_of_beq_eq_true hb
      subst e
      obtain ⟨hst, h⟩ := mN_ok h
      subst hst
      obtain ⟨a2, n2, h⟩ := gI_ok h
      refine at_leaf (ls2 := [(109, .ref r0), (109, .ref r1), (0, .int a2)]) h3.1 ⟨Or.inr ⟨_, (h3.2 0 rfl).trans rfl⟩, Or.inr ⟨_, (h3.2 1 rfl).trans rfl⟩, Or.inr n2, trivial⟩ ?_
      exact s_Texts_become_2 hcs r0 r1 a2 t0 t1 q0 _ _ _ h hq
    cases h
  · intro v I2 _ h
    split at h
    · cases h; exact q0 _ _ hq
    · cases h
theorem w_Texts_become {d : Nat} (hcs : AllS L X d (cs_Texts_become F_Texts_take)) : Snd L X (d + 1) 188 2 (W_Texts_become F_Texts_become) := by
  refine ⟨_, z_Texts_become, rfl, fun β args k I r hty hlen h => ?_⟩
  unfold W_Texts_become at h
  split at h
  · rename_i t0 a0 t1 a1
    obtain ⟨hb0, h⟩ := mB_ok h
    have e0 := Nat.eq_of_beq_eq_true hb0
    have g0 : okB 109 a0 = true := e0 ▸ hty.1
    obtain ⟨hb1, h⟩ := mB_ok h
    have e1 := Nat.eq_of_beq_eq_true hb1
    have g1 : okB 109 a1 = true := e1 ▸ hty.2.1
    obtain ⟨v, I1, h1, h2⟩ := bn_some h
    refine ⟨gf_obj (c := 9) (by decide) g0, rfl, none, I1, trivial, ?_, h2⟩
    exact s_Texts_become_0 hcs a0 a1 g0 g1 (Q := fun w I => w = v ∧ I = I1) (fun w I q => by obtain ⟨rfl, rfl⟩ := q; rfl) I v I1 h1 ⟨rfl, rfl⟩
  · cases h
theorem S_Texts_become {d : Nat} (hd : 4 ≤ d) : Snd L X d 188 2 (W_Texts_become F_Texts_become) := by
  obtain ⟨e, rfl⟩ : ∃ e, d = e + 1 := ⟨d - 1, by omega⟩
  exact w_Texts_become ⟨S_Texts_take (by omega), trivial⟩
set_option maxRecDepth 100000 in
theorem z_Stock_become : pT[186]? = some (q_Stock_become, 2, 2, 0, 7) := rfl
def W_Stock_become (F : Nat → Nat → M Unit) : CSem := fun _ args k => match args with
  | [(t0, .ref a0), (t1, .ref a1)] => mB (Nat.beq t0 107) <| mB (Nat.beq t1 107) <| bn (F a0 a1) fun _ => k none
  | _ => fl
def cs_Stock_become (f_Book_become : Nat → Nat → M Unit) (f_Table_become : Nat → Nat → M Unit) (f_Texts_become : Nat → Nat → M Unit) (f_World_become : Nat → Nat → M Unit) : List (Nat × Nat × CSem) := [(187, 2, W_Book_become f_Book_become), (109, 2, W_Table_become f_Table_become), (188, 2, W_Texts_become f_Texts_become), (28, 2, W_World_become f_World_become)]
def F_Stock_become (r0 : Nat) (r1 : Nat) : M (Unit) :=
  bn (F_World_become (r0 + 1) (r1 + 1)) fun _ =>
  bn (F_Book_become (r0 + 12) (r1 + 12)) fun _ =>
  bn (F_Texts_become (r0 + 14) (r1 + 14)) fun _ =>
  bn (F_Table_become (r0 + 26) (r1 + 26)) fun _ =>
  bn (F_Table_become (r0 + 28) (r1 + 28)) fun _ =>
  bn (F_Table_become (r0 + 30) (r1 + 30)) fun _ =>
  bn (F_Table_become (r0 + 32) (r1 + 32)) fun _ =>
  bn (F_Table_become (r0 + 34) (r1 + 34)) fun _ =>
  bn (F_Table_become (r0 + 36) (r1 + 36)) fun _ =>
  bn (F_Table_become (r0 + 38) (r1 + 38)) fun _ =>
  bn (F_Table_become (r0 + 40) (r1 + 40)) fun _ =>
  bn (F_Table_become (r0 + 42) (r1 + 42)) fun _ =>
  bn (F_Table_become (r0 + 44) (r1 + 44)) fun _ =>
  rt ()
set_option maxRecDepth 4000 in
theorem e_s_Stock_become_0 (f_Book_become : Nat → Nat → M Unit) (f_Table_become : Nat → Nat → M Unit) (f_Texts_become : Nat → Nat → M Unit) (f_World_become : Nat → Nat → M Unit) (r0 : Nat) (r1 : Nat) : wf (β := Unit) L X q_Stock_become 0 (cs_Stock_become f_Book_become f_Table_become f_Texts_become f_World_become) [] [] (fun _ _ _ => fl) (fun v => match v with | none => rt () | _ => fl) 71 0 [(107, .ref r0), (107, .ref r1)] [] = (bn (f_World_become (r0 + 1) (r1 + 1)) fun _ =>
  bn (f_Book_become (r0 + 12) (r1 + 12)) fun _ =>
  bn (f_Texts_become (r0 + 14) (r1 + 14)) fun _ =>
  bn (f_Table_become (r0 + 26) (r1 + 26)) fun _ =>
  bn (f_Table_become (r0 + 28) (r1 + 28)) fun _ =>
  bn (f_Table_become (r0 + 30) (r1 + 30)) fun _ =>
  bn (f_Table_become (r0 + 32) (r1 + 32)) fun _ =>
  bn (f_Table_become (r0 + 34) (r1 + 34)) fun _ =>
  bn (f_Table_become (r0 + 36) (r1 + 36)) fun _ =>
  bn (f_Table_become (r0 + 38) (r1 + 38)) fun _ =>
  bn (f_Table_become (r0 + 40) (r1 + 40)) fun _ =>
  bn (f_Table_become (r0 + 42) (r1 + 42)) fun _ =>
  bn (f_Table_become (r0 + 44) (r1 + 44)) fun _ =>
  rt ()) := rfl
theorem s_Stock_become_0 {d : Nat} (hcs : AllS L X d (cs_Stock_become F_Book_become F_Table_become F_Texts_become F_World_become)) (r0 : Nat) (r1 : Nat) (t0 : okB 107 r0 = true) (t1 : okB 107 r1 = true) {o : Option Value × PH} {Q : (Unit) → MI → Prop} (q0 : ∀ v I, Q v I → o = (none, HH I)) (I : MI) (r : Unit) (I1 : MI) (h : F_Stock_become r0 r1 I = some (r, I1)) (hq : Q r I1) : At L X (d + 1) 186 0 [(107, .ref r0), (107, .ref r1)] [] I o := by
  refine wf_ok z_Stock_become hcs ?_ ?_ _ _ _ _ _ ⟨t0, t1, trivial⟩ trivial (unm_refl _ _) ((congrFun (e_s_Stock_become_0 (L := L) (X := X) F_Book_become F_Table_become F_Texts_become F_World_become r0 r1) I).trans h)
  · intro pc ls st I2 h1 h2 h3 h
    cases h
  · intro v I2 _ h
    split at h
    · cases h; exact q0 _ _ hq
    · cases h
theorem w_Stock_become {d : Nat} (hcs : AllS L X d (cs_Stock_become F_Book_become F_Table_become F_Texts_become F_World_become)) : Snd L X (d + 1) 186 2 (W_Stock_become F_Stock_become) := by
  refine ⟨_, z_Stock_become, rfl, fun β args k I r hty hlen h => ?_⟩
  unfold W_Stock_become at h
  split at h
  · rename_i t0 a0 t1 a1
    obtain ⟨hb0, h⟩ := mB_ok h
    have e0 := Nat.eq_of_beq_eq_true hb0
    have g0 : okB 107 a0 = true := e0 ▸ hty.1
    obtain ⟨hb1, h⟩ := mB_ok h
    have e1 := Nat.eq_of_beq_eq_true hb1
    have g1 : okB 107 a1 = true := e1 ▸ hty.2.1
    obtain ⟨v, I1, h1, h2⟩ := bn_some h
    refine ⟨gf_obj (c := 7) (by decide) g0, rfl, none, I1, trivial, ?_, h2⟩
    exact s_Stock_become_0 hcs a0 a1 g0 g1 (Q := fun w I => w = v ∧ I = I1) (fun w I q => by obtain ⟨rfl, rfl⟩ := q; rfl) I v I1 h1 ⟨rfl, rfl⟩
  · cases h
theorem S_Stock_become {d : Nat} (hd : 5 ≤ d) : Snd L X d 186 2 (W_Stock_become F_Stock_become) := by
  obtain ⟨e, rfl⟩ : ∃ e, d = e + 1 := ⟨d - 1, by omega⟩
  exact w_Stock_become ⟨S_Book_become (by omega), S_Table_become (by omega), S_Texts_become (by omega), S_World_become (by omega), trivial⟩
set_option maxRecDepth 100000 in
theorem z_A_image : pT[185]? = some (q_A_image, 2, 2, 2, 11) := rfl
def W_A_image (F : Int32 → M Int32) : CSem := fun _ args k => match args with
  | [(t0, .ref a0), (_, .int a1)] => mB (Nat.beq t0 111) <| bn (F a1) fun v => k (some (0, .int v))
  | _ => fl
def cs_A_image (f_A_forget : M Unit) (f_Stock_become : Nat → Nat → M Unit) : List (Nat × Nat × CSem) := [(15, 1, W_A_forget f_A_forget), (186, 2, W_Stock_become f_Stock_become)]
def F_A_image (x1 : Int32) : M (Int32) :=
  (if x1 = 0 then
    bn (rd 0 2) fun v1 =>
    (if v1 = 0 then
      bn (gdZ (0 : Int32)) fun _ => rt (0 : Int32)
    else
      bn (F_Stock_become 1 47) fun _ =>
      bn (F_A_forget) fun _ =>
      bn (gdZ (1 : Int32)) fun _ => rt (1 : Int32))
  else
    bn (F_Stock_become 47 1) fun _ =>
    bn (wrZ 0 2 (1 : Int32)) fun _ =>
    bn (gdZ (1 : Int32)) fun _ => rt (1 : Int32))
set_option maxRecDepth 4000 in
theorem e_s_A_image_0 (f_A_forget : M Unit) (f_Stock_become : Nat → Nat → M Unit) (x1 : Int32) : wf (β := Int32) L X q_A_image 2 (cs_A_image f_A_forget f_Stock_become) [] [] (fun _ _ _ => fl) (fun v => match v with | some (_, .int x) => rt x | _ => fl) 31 0 [(111, .ref 0), (0, .int x1)] [] = ((if x1 = 0 then
    bn (rd 0 2) fun v1 =>
    (if v1 = 0 then
      bn (gdZ (0 : Int32)) fun _ => rt (0 : Int32)
    else
      bn (f_Stock_become 1 47) fun _ =>
      bn (f_A_forget) fun _ =>
      bn (gdZ (1 : Int32)) fun _ => rt (1 : Int32))
  else
    bn (f_Stock_become 47 1) fun _ =>
    bn (wrZ 0 2 (1 : Int32)) fun _ =>
    bn (gdZ (1 : Int32)) fun _ => rt (1 : Int32))) := rfl
theorem s_A_image_0 {d : Nat} (hcs : AllS L X d (cs_A_image F_A_forget F_Stock_become)) (x1 : Int32) {o : Option Value × PH} {Q : (Int32) → MI → Prop} (q0 : ∀ v I, Q v I → o = (some (.int v), HH I)) (I : MI) (r : Int32) (I1 : MI) (h : F_A_image x1 I = some (r, I1)) (hq : Q r I1) : At L X (d + 1) 185 0 [(111, .ref 0), (0, .int x1)] [] I o := by
  refine wf_ok z_A_image hcs ?_ ?_ _ _ _ _ _ ⟨rfl, trivial, trivial⟩ trivial (unm_refl _ _) ((congrFun (e_s_A_image_0 (L := L) (X := X) F_A_forget F_Stock_become x1) I).trans h)
  · intro pc ls st I2 h1 h2 h3 h
    cases h
  · intro v I2 _ h
    split at h
    · cases h; exact q0 _ _ hq
    · cases h
theorem w_A_image {d : Nat} (hcs : AllS L X d (cs_A_image F_A_forget F_Stock_become)) : Snd L X (d + 1) 185 2 (W_A_image F_A_image) := by
  refine ⟨_, z_A_image, rfl, fun β args k I r hty hlen h => ?_⟩
  unfold W_A_image at h
  split at h
  · rename_i t0 a0 u1 a1
    obtain ⟨hb0, h⟩ := mB_ok h
    have e0 := Nat.eq_of_beq_eq_true hb0
    have g0 : okB 111 a0 = true := e0 ▸ hty.1
    have e20 := one_111 g0
    subst e20
    obtain ⟨v, I1, h1, h2⟩ := bn_some h
    refine ⟨gf_obj (c := 11) (by decide) g0, rfl, some (0, .int v), I1, trivial, ?_, h2⟩
    exact s_A_image_0 hcs a1  (Q := fun w I => w = v ∧ I = I1) (fun w I q => by obtain ⟨rfl, rfl⟩ := q; rfl) I v I1 h1 ⟨rfl, rfl⟩
  · cases h
theorem S_A_image {d : Nat} (hd : 6 ≤ d) : Snd L X d 185 2 (W_A_image F_A_image) := by
  obtain ⟨e, rfl⟩ : ∃ e, d = e + 1 := ⟨d - 1, by omega⟩
  exact w_A_image ⟨S_A_forget (by omega), S_Stock_become (by omega), trivial⟩
end
