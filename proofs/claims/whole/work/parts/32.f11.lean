/-! methods (written by wip/tools/gen_f.py) -/
section
variable {L : Nat} {X : Nat → Int32}
set_option maxRecDepth 100000 in
theorem z_R_twoOf : pT[261]? = some (q_R_twoOf, 4, 4, 1, 12) := rfl
def W_R_twoOf (F : Int32 → Int32 → Int32 → M Int32) : CSem := fun _ args k => match args with
  | [(t0, .ref a0), (_, .int a1), (_, .int a2), (_, .int a3)] => mB (Nat.beq t0 112) <| bn (F a1 a2 a3) fun v => k (some (0, .int v))
  | _ => fl
def cs_R_twoOf : List (Nat × Nat × CSem) := []
def F_R_twoOf (x1 : Int32) (x2 : Int32) (x3 : Int32) : M (Int32) :=
  (if x1 = (2 : Int32) then
    rt (x2 + x3)
  else
    (if x1 = (3 : Int32) then
      rt (x2 - x3)
    else
      (if x1 = (4 : Int32) then
        rt (x2 * x3)
      else
        (if x1 = (5 : Int32) then
          dvI x3 <|
          rt (x2 / x3)
        else
          (if x1 = (6 : Int32) then
            (if x2 < x3 then
              rt (1 : Int32)
            else
              rt (0 : Int32))
          else
            (if x1 = (7 : Int32) then
              (if x2 = x3 then
                rt (1 : Int32)
              else
                rt (0 : Int32))
            else
              (if x1 = (8 : Int32) then
                (if x3 < x2 then
                  rt (1 : Int32)
                else
                  rt (0 : Int32))
              else
                (if x1 = (10 : Int32) then
                  rt (x2 * x3)
                else
                  (if 0 < (x2 + x3) then
                    rt (1 : Int32)
                  else
                    rt (0 : Int32))))))))))
set_option maxRecDepth 4000 in
theorem e_s_R_twoOf_0 (x1 : Int32) (x2 : Int32) (x3 : Int32) : wf (β := Int32) L X q_R_twoOf 1 cs_R_twoOf [] [] (fun _ _ _ => fl) (fun v => match v with | some (_, .int x) => rt x | _ => fl) 78 0 [(112, .ref 207), (0, .int x1), (0, .int x2), (0, .int x3)] [] = ((if x1 = (2 : Int32) then
    rt (x2 + x3)
  else
    (if x1 = (3 : Int32) then
      rt (x2 - x3)
    else
      (if x1 = (4 : Int32) then
        rt (x2 * x3)
      else
        (if x1 = (5 : Int32) then
          dvI x3 <|
          rt (x2 / x3)
        else
          (if x1 = (6 : Int32) then
            (if x2 < x3 then
              rt (1 : Int32)
            else
              rt (0 : Int32))
          else
            (if x1 = (7 : Int32) then
              (if x2 = x3 then
                rt (1 : Int32)
              else
                rt (0 : Int32))
            else
              (if x1 = (8 : Int32) then
                (if x3 < x2 then
                  rt (1 : Int32)
                else
                  rt (0 : Int32))
              else
                (if x1 = (10 : Int32) then
                  rt (x2 * x3)
                else
                  (if 0 < (x2 + x3) then
                    rt (1 : Int32)
                  else
                    rt (0 : Int32))))))))))) := rfl
theorem s_R_twoOf_0 {d : Nat} (hcs : AllS L X d cs_R_twoOf) (x1 : Int32) (x2 : Int32) (x3 : Int32) {o : Option Value × PH} {Q : (Int32) → MI → Prop} (q0 : ∀ v I, Q v I → o = (some (.int v), HH I)) (I : MI) (r : Int32) (I1 : MI) (h : F_R_twoOf x1 x2 x3 I = some (r, I1)) (hq : Q r I1) : At L X (d + 1) 261 0 [(112, .ref 207), (0, .int x1), (0, .int x2), (0, .int x3)] [] I o := by
  refine wf_ok z_R_twoOf hcs ?_ ?_ _ _ _ _ _ ⟨rfl, trivial, trivial, trivial, trivial⟩ trivial (unm_refl _ _) ((congrFun (e_s_R_twoOf_0 (L := L) (X := X) x1 x2 x3) I).trans h)
  · intro pc ls st I2 h1 h2 h3 h
    cases h
  · intro v I2 _ h
    split at h
    · cases h; exact q0 _ _ hq
    · cases h
theorem w_R_twoOf {d : Nat} (hcs : AllS L X d cs_R_twoOf) : Snd L X (d + 1) 261 4 (W_R_twoOf F_R_twoOf) := by
  refine ⟨_, z_R_twoOf, rfl, fun β args k I r hty hlen h => ?_⟩
  unfold W_R_twoOf at h
  split at h
  · rename_i t0 a0 u1 a1 u2 a2 u3 a3
    obtain ⟨hb0, h⟩ := mB_ok h
    have e0 := Nat.eq_of_beq_eq_true hb0
    have g0 : okB 112 a0 = true := e0 ▸ hty.1
    have e20 := one_112 g0
    subst e20
    obtain ⟨v, I1, h1, h2⟩ := bn_some h
    refine ⟨gf_obj (c := 12) (by decide) g0, rfl, some (0, .int v), I1, trivial, ?_, h2⟩
    exact s_R_twoOf_0 hcs a1 a2 a3  (Q := fun w I => w = v ∧ I = I1) (fun w I q => by obtain ⟨rfl, rfl⟩ := q; rfl) I v I1 h1 ⟨rfl, rfl⟩
  · cases h
theorem S_R_twoOf {d : Nat} (hd : 1 ≤ d) : Snd L X d 261 4 (W_R_twoOf F_R_twoOf) := by
  obtain ⟨e, rfl⟩ : ∃ e, d = e + 1 := ⟨d - 1, by omega⟩
  exact w_R_twoOf trivial
set_option maxRecDepth 100000 in
theorem z_R_runs : pT[260]? = some (q_R_runs, 4, 6, 1, 12) := rfl
def W_R_runs (F : Int32 → Int32 → Int32 → M Int32) : CSem := fun _ args k => match args with
  | [(t0, .ref a0), (_, .int a1), (_, .int a2), (_, .int a3)] => mB (Nat.beq t0 112) <| bn (F a1 a2 a3) fun v => k (some (0, .int v))
  | _ => fl
def cs_R_runs (f_R_twoOf : Int32 → Int32 → Int32 → M Int32) : List (Nat × Nat × CSem) := [(261, 4, W_R_twoOf f_R_twoOf)]
def K_R_runs_45 (x1 : Int32) (x3 : Int32) (x4 : Int32) (x5 : Int32) : M ((Int32 × Int32) ⊕ (Int32)) :=
  bn (ld 1200 223 x5) fun v1 =>
  (if v1 = 0 then
    bn (ld 1200 224 x5) fun v4 =>
    bn (sr 420 230 x4 v4) fun _ =>
    rt (.inl ((x4 + (1 : Int32)), (x5 + (1 : Int32))))
  else
    bn (ld 1200 224 x5) fun v2 =>
    bn (ld 9 229 v2) fun v3 =>
    bn (sr 420 230 x4 v3) fun _ =>
    rt (.inl ((x4 + (1 : Int32)), (x5 + (1 : Int32)))))
set_option maxRecDepth 4000 in
theorem e_s_R_runs_45 (f_R_twoOf : Int32 → Int32 → Int32 → M Int32) (x1 : Int32) (x3 : Int32) (x4 : Int32) (x5 : Int32) : wf (β := (Int32 × Int32) ⊕ (Int32)) L X q_R_runs 1 (cs_R_runs f_R_twoOf) [4, 5] [12, 45] (fun pc ls st => mC (Nat.beq pc 12) (mN st <| gD ls 2 <| gI ls 4 fun a4 => gI ls 5 fun a5 => rt (.inl (a4, a5))) (fl)) (fun v => match v with | some (_, .int x) => rt (.inr x) | _ => fl) 111 45 [(112, .ref 207), (0, .int x1), (0, dV), (0, .int x3), (0, .int x4), (0, .int x5)] [] = (bn (ld 1200 223 x5) fun v1 =>
  (if v1 = 0 then
    bn (ld 1200 224 x5) fun v4 =>
    bn (sr 420 230 x4 v4) fun _ =>
    rt (.inl ((x4 + (1 : Int32)), (x5 + (1 : Int32))))
  else
    bn (ld 1200 224 x5) fun v2 =>
    bn (ld 9 229 v2) fun v3 =>
    bn (sr 420 230 x4 v3) fun _ =>
    rt (.inl ((x4 + (1 : Int32)), (x5 + (1 : Int32)))))) := rfl
theorem s_R_runs_45 {d : Nat} (hcs : AllS L X d (cs_R_runs F_R_twoOf)) (x1 : Int32) (x3 : Int32) (x4 : Int32) (x5 : Int32) {o : Option Value × PH} {Q : ((Int32 × Int32) ⊕ (Int32)) → MI → Prop} (qb : ∀ y I, Q (.inl y) I → At L X (d + 1) 260 12 [(112, .ref 207), (0, .int x1), (0, dV), (0, .int x3), (0, .int y.1), (0, .int y.2)] [] I o) (qr : ∀ v I, Q (.inr v) I → o = (some (.int v), HH I)) (I : MI) (r : (Int32 × Int32) ⊕ (Int32)) (I1 : MI) (h : K_R_runs_45 x1 x3 x4 x5 I = some (r, I1)) (hq : Q r I1) : At L X (d + 1) 260 45 [(112, .ref 207), (0, .int x1), (0, dV), (0, .int x3), (0, .int x4), (0, .int x5)] [] I o := by
  refine wf_ok z_R_runs hcs ?_ ?_ _ _ _ _ _ ⟨rfl, trivial, trivial, trivial, trivial, trivial, trivial⟩ trivial (unm_refl _ _) ((congrFun (e_s_R_runs_45 (L := L) (X := X) F_R_twoOf x1 x3 x4 x5) I).trans h)
  · intro pc ls st I2 h1 h2 h3 h
    rcases mC_ok h with ⟨hb, h⟩ | ⟨_, h⟩
    · have e := Nat.eq_of_beq_eq_true hb
      subst e
      obtain ⟨hst, h⟩ := mN_ok h
      subst hst
      obtain ⟨n2, h⟩ := gD_ok h
      obtain ⟨a4, n4, h⟩ := gI_ok h
      obtain ⟨a5, n5, h⟩ := gI_ok h
      refine at_leaf (ls2 := [(112, .ref 207), (0, .int x1), (0, dV), (0, .int x3), (0, .int a4), (0, .int a5)]) h3.1 ⟨Or.inr ⟨_, (h3.2 0 rfl).trans rfl⟩, Or.inr ⟨_, (h3.2 1 rfl).trans rfl⟩, Or.inl ⟨rfl, n2⟩, Or.inr ⟨_, (h3.2 3 rfl).trans rfl⟩, Or.inr n4, Or.inr n5, trivial⟩ ?_
      cases h; exact qb _ _ hq
    cases h
  · intro v I2 _ h
    split at h
    · cases h; exact qr _ _ hq
    · cases h
def B_R_runs_12 (x1 : Int32) (x3 : Int32) (y : Int32 × Int32) : M ((Int32 × Int32) ⊕ (Int32)) :=
  (if y.2 < (((400 : Int32) * x1) + x3) then
    bn (ld 1200 223 y.2) fun v2 =>
    (if v2 = 0 then
      K_R_runs_45 x1 x3 y.1 y.2
    else
      bn (ld 1200 223 y.2) fun v3 =>
      (if v3 = (1 : Int32) then
        K_R_runs_45 x1 x3 y.1 y.2
      else
        bn (ld 1200 223 y.2) fun v4 =>
        (if v4 = (9 : Int32) then
          bn (ld 420 230 (y.1 - (1 : Int32))) fun v9 =>
          bn (sr 420 230 (y.1 - (1 : Int32)) ((1 : Int32) - v9)) fun _ =>
          rt (.inl (y.1, (y.2 + (1 : Int32))))
        else
          bn (ld 1200 223 y.2) fun v5 =>
          bn (ld 420 230 ((y.1 - (1 : Int32)) - (1 : Int32))) fun v6 =>
          bn (ld 420 230 (y.1 - (1 : Int32))) fun v7 =>
          bn (F_R_twoOf v5 v6 v7) fun v8 =>
          bn (sr 420 230 ((y.1 - (1 : Int32)) - (1 : Int32)) v8) fun _ =>
          rt (.inl ((y.1 - (1 : Int32)), (y.2 + (1 : Int32)))))))
  else
    bn (ld 420 230 (0 : Int32)) fun v1 =>
    rt (.inr v1))
set_option maxRecDepth 4000 in
theorem e_b_R_runs_12 (f_R_twoOf : Int32 → Int32 → Int32 → M Int32) (k_45 : Int32 → Int32 → Int32 → Int32 → M ((Int32 × Int32) ⊕ (Int32))) (x1 : Int32) (x3 : Int32) (y : Int32 × Int32) : wf (β := (Int32 × Int32) ⊕ (Int32)) L X q_R_runs 1 (cs_R_runs f_R_twoOf) [4, 5] [12, 45] (fun pc ls st => mC (Nat.beq pc 12) (mN st <| gD ls 2 <| gI ls 4 fun a4 => gI ls 5 fun a5 => rt (.inl (a4, a5))) (mC (Nat.beq pc 45) (mN st <| gD ls 2 <| gI ls 4 fun a4 => gI ls 5 fun a5 => k_45 x1 x3 a4 a5) (fl))) (fun v => match v with | some (_, .int x) => rt (.inr x) | _ => fl) 111 12 [(112, .ref 207), (0, .int x1), (0, dV), (0, .int x3), (0, .int y.1), (0, .int y.2)] [] = ((if y.2 < (((400 : Int32) * x1) + x3) then
    bn (ld 1200 223 y.2) fun v2 =>
    (if v2 = 0 then
      k_45 x1 x3 y.1 y.2
    else
      bn (ld 1200 223 y.2) fun v3 =>
      (if v3 = (1 : Int32) then
        k_45 x1 x3 y.1 y.2
      else
        bn (ld 1200 223 y.2) fun v4 =>
        (if v4 = (9 : Int32) then
          bn (ld 420 230 (y.1 - (1 : Int32))) fun v9 =>
          bn (sr 420 230 (y.1 - (1 : Int32)) ((1 : Int32) - v9)) fun _ =>
          rt (.inl (y.1, (y.2 + (1 : Int32))))
        else
          bn (ld 1200 223 y.2) fun v5 =>
          bn (ld 420 230 ((y.1 - (1 : Int32)) - (1 : Int32))) fun v6 =>
          bn (ld 420 230 (y.1 - (1 : Int32))) fun v7 =>
          bn (f_R_twoOf v5 v6 v7) fun v8 =>
          bn (sr 420 230 ((y.1 - (1 : Int32)) - (1 : Int32)) v8) fun _ =>
          rt (.inl ((y.1 - (1 : Int32)), (y.2 + (1 : Int32)))))))
  else
    bn (ld 420 230 (0 : Int32)) fun v1 =>
    rt (.inr v1))) := rfl
theorem b_R_runs_12 {d : Nat} (hcs : AllS L X d (cs_R_runs F_R_twoOf)) (x1 : Int32) (x3 : Int32) {o : Option Value × PH} {Q : ((Int32 × Int32) ⊕ (Int32)) → MI → Prop} (qb : ∀ y I, Q (.inl y) I → At L X (d + 1) 260 12 [(112, .ref 207), (0, .int x1), (0, dV), (0, .int x3), (0, .int y.1), (0, .int y.2)] [] I o) (qr : ∀ v I, Q (.inr v) I → o = (some (.int v), HH I)) (y : Int32 × Int32) (I : MI) (r : (Int32 × Int32) ⊕ (Int32)) (I1 : MI) (h : B_R_runs_12 x1 x3 y I = some (r, I1)) (hq : Q r I1) : At L X (d + 1) 260 12 [(112, .ref 207), (0, .int x1), (0, dV), (0, .int x3), (0, .int y.1), (0, .int y.2)] [] I o := by
  refine wf_ok z_R_runs hcs ?_ ?_ _ _ _ _ _ ⟨rfl, trivial, trivial, trivial, trivial, trivial, trivial⟩ trivial (unm_refl _ _) ((congrFun (e_b_R_runs_12 (L := L) (X := X) F_R_twoOf K_R_runs_45 x1 x3 y) I).trans h)
  · intro pc ls st I2 h1 h2 h3 h
    rcases mC_ok h with ⟨hb, h⟩ | ⟨_, h⟩
    · have e := Nat.eq_of_beq_eq_true hb
      subst e
      obtain ⟨hst, h⟩ := mN_ok h
      subst hst
      obtain ⟨n2, h⟩ := gD_ok h
      obtain ⟨a4, n4, h⟩ := gI_ok h
      obtain ⟨a5, n5, h⟩ := gI_ok h
      refine at_leaf (ls2 := [(112, .ref 207), (0, .int x1), (0, dV), (0, .int x3), (0, .int a4), (0, .int a5)]) h3.1 ⟨Or.inr ⟨_, (h3.2 0 rfl).trans rfl⟩, Or.inr ⟨_, (h3.2 1 rfl).trans rfl⟩, Or.inl ⟨rfl, n2⟩, Or.inr ⟨_, (h3.2 3 rfl).trans rfl⟩, Or.inr n4, Or.inr n5, trivial⟩ ?_
      cases h; exact qb _ _ hq
    rcases mC_ok h with ⟨hb, h⟩ | ⟨_, h⟩
    · have e := Nat.eq_of_beq_eq_true hb
      subst e
      obtain ⟨hst, h⟩ := mN_ok h
      subst hst
      obtain ⟨n2, h⟩ := gD_ok h
      obtain ⟨a4, n4, h⟩ := gI_ok h
      obtain ⟨a5, n5, h⟩ := gI_ok h
      refine at_leaf (ls2 := [(112, .ref 207), (0, .int x1), (0, dV), (0, .int x3), (0, .int a4), (0, .int a5)]) h3.1 ⟨Or.inr ⟨_, (h3.2 0 rfl).trans rfl⟩, Or.inr ⟨_, (h3.2 1 rfl).trans rfl⟩, Or.inl ⟨rfl, n2⟩, Or.inr ⟨_, (h3.2 3 rfl).trans rfl⟩, Or.inr n4, Or.inr n5, trivial⟩ ?_
      exact s_R_runs_45 hcs x1 x3 a4 a5 qb qr _ _ _ h hq
    cases h
  · intro v I2 _ h
    split at h
    · cases h; exact qr _ _ hq
    · cases h
def K_R_runs_12 (x1 : Int32) (x3 : Int32) (x4 : Int32) (x5 : Int32) : M (Int32) :=
  lp (B_R_runs_12 x1 x3) FU (x4, x5)
theorem s_R_runs_12 {d : Nat} (hcs : AllS L X d (cs_R_runs F_R_twoOf)) (x1 : Int32) (x3 : Int32) (x4 : Int32) (x5 : Int32) {o : Option Value × PH} {Q : (Int32) → MI → Prop} (q0 : ∀ v I, Q v I → o = (some (.int v), HH I)) (I : MI) (r : Int32) (I1 : MI) (h : K_R_runs_12 x1 x3 x4 x5 I = some (r, I1)) (hq : Q r I1) : At L X (d + 1) 260 12 [(112, .ref 207), (0, .int x1), (0, dV), (0, .int x3), (0, .int x4), (0, .int x5)] [] I o := by
  unfold K_R_runs_12 at h
  have w0 := fun w => at_lp (body := B_R_runs_12 x1 x3) (P := (fun (y : Int32 × Int32) I => At L X (d + 1) 260 12 [(112, .ref 207), (0, .int x1), (0, dV), (0, .int x3), (0, .int y.1), (0, .int y.2)] [] I o)) (Q := (fun (e : Int32) I => Q e I)) w FU (x4, x5) I r I1 h hq
  refine w0 ?_
  intro y I r I1 h hq
  exact b_R_runs_12 hcs x1 x3 (Q := SQ (fun (y : Int32 × Int32) I => At L X (d + 1) 260 12 [(112, .ref 207), (0, .int x1), (0, dV), (0, .int x3), (0, .int y.1), (0, .int y.2)] [] I o) (fun (e : Int32) I => Q e I)) (fun _ _ w => w) q0 y I r I1 h hq
def F_R_runs (x1 : Int32) (x2 : Int32) (x3 : Int32) : M (Int32) :=
  K_R_runs_12 x1 x3 (0 : Int32) (((400 : Int32) * x1) + x2)
set_option maxRecDepth 4000 in
theorem e_s_R_runs_0 (f_R_twoOf : Int32 → Int32 → Int32 → M Int32) (k_12 : Int32 → Int32 → Int32 → Int32 → M (Int32)) (x1 : Int32) (x2 : Int32) (x3 : Int32) : wf (β := Int32) L X q_R_runs 1 (cs_R_runs f_R_twoOf) [4, 5] [12, 45] (fun pc ls st => mC (Nat.beq pc 12) (mN st <| gD ls 2 <| gI ls 4 fun a4 => gI ls 5 fun a5 => k_12 x1 x3 a4 a5) (fl)) (fun v => match v with | some (_, .int x) => rt x | _ => fl) 111 0 [(112, .ref 207), (0, .int x1), (0, .int x2), (0, .int x3), (0, dV), (0, dV)] [] = (k_12 x1 x3 (0 : Int32) (((400 : Int32) * x1) + x2)) := rfl
theorem s_R_runs_0 {d : Nat} (hcs : AllS L X d (cs_R_runs F_R_twoOf)) (x1 : Int32) (x2 : Int32) (x3 : Int32) {o : Option Value × PH} {Q : (Int32) → MI → Prop} (q0 : ∀ v I, Q v I → o = (some (.int v), HH I)) (I : MI) (r : Int32) (I1 : MI) (h : F_R_runs x1 x2 x3 I = some (r, I1)) (hq : Q r I1) : At L X (d + 1) 260 0 [(112, .ref 207), (0, .int x1), (0, .int x2), (0, .int x3), (0, dV), (0, dV)] [] I o := by
  refine wf_ok z_R_runs hcs ?_ ?_ _ _ _ _ _ ⟨rfl, trivial, trivial, trivial, trivial, trivial, trivial⟩ trivial (unm_refl _ _) ((congrFun (e_s_R_runs_0 (L := L) (X := X) F_R_twoOf K_R_runs_12 x1 x2 x3) I).trans h)
  · intro pc ls st I2 h1 h2 h3 h
    rcases mC_ok h with ⟨hb, h⟩ | ⟨_, h⟩
    · have e := Nat.eq_of_beq_eq_true hb
      subst e
      obtain ⟨hst, h⟩ := mN_ok h
      subst hst
      obtain ⟨n2, h⟩ := gD_ok h
      obtain ⟨a4, n4, h⟩ := gI_ok h
      obtain ⟨a5, n5, h⟩ := gI_ok h
      refine at_leaf (ls2 := [(112, .ref 207), (0, .int x1), (0, dV), (0, .int x3), (0, .int a4), (0, .int a5)]) h3.1 ⟨Or.inr ⟨_, (h3.2 0 rfl).trans rfl⟩, Or.inr ⟨_, (h3.2 1 rfl).trans rfl⟩, Or.inl ⟨rfl, n2⟩, Or.inr ⟨_, (h3.2 3 rfl).trans rfl⟩, Or.inr n4, Or.inr n5, trivial⟩ ?_
      exact s_R_runs_12 hcs x1 x3 a4 a5 q0 _ _ _ h hq
    cases h
  · intro v I2 _ h
    split at h
    · cases h; exact q0 _ _ hq
    · cases h
theorem w_R_runs {d : Nat} (hcs : AllS L X d (cs_R_runs F_R_twoOf)) : Snd L X (d + 1) 260 4 (W_R_runs F_R_runs) := by
  refine ⟨_, z_R_runs, rfl, fun β args k I r hty hlen h => ?_⟩
  unfold W_R_runs at h
  split at h
  · rename_i t0 a0 u1 a1 u2 a2 u3 a3
    obtain ⟨hb0, h⟩ := mB_ok h
    have e0 := Nat.eq_of_beq_eq_true hb0
    have g0 : okB 112 a0 = true := e0 ▸ hty.1
    have e20 := one_112 g0
    subst e20
    obtain ⟨v, I1, h1, h2⟩ := bn_some h
    refine ⟨gf_obj (c := 12) (by decide) g0, rfl, some (0, .int v), I1, trivial, ?_, h2⟩
    exact s_R_runs_0 hcs a1 a2 a3  (Q := fun w I => w = v ∧ I = I1) (fun w I q => by obtain ⟨rfl, rfl⟩ := q; rfl) I v I1 h1 ⟨rfl, rfl⟩
  · cases h
theorem S_R_runs {d : Nat} (hd : 2 ≤ d) : Snd L X d 260 4 (W_R_runs F_R_runs) := by
  obtain ⟨e, rfl⟩ : ∃ e, d = e + 1 := ⟨d - 1, by omega⟩
  exact w_R_runs ⟨S_R_twoOf (by omega), trivial⟩
set_option maxRecDepth 100000 in
theorem z_R_lineOf : pT[259]? = some (q_R_lineOf, 2, 3, 1, 12) := rfl
def W_R_lineOf (F : Int32 → M Int32) : CSem := fun _ args k => match args with
  | [(t0, .ref a0), (_, .int a1)] => mB (Nat.beq t0 112) <| bn (F a1) fun v => k (some (0, .int v))
  | _ => fl
def cs_R_lineOf (f_R_runs : Int32 → Int32 → Int32 → M Int32) : List (Nat × Nat × CSem) := [(260, 4, W_R_runs f_R_runs)]
def B_R_lineOf_2 (x1 : Int32) (y : Int32) : M ((Int32) ⊕ (Int32)) :=
  bn (ld 2 218 (0 : Int32)) fun v1 =>
  (if y < v1 then
    bn (ld 48 219 y) fun v2 =>
    (if v2 = x1 then
      bn (ld 48 221 y) fun v3 =>
      bn (ld 48 222 y) fun v4 =>
      (if v3 = v4 then
        rt (.inr y)
      else
        bn (ld 48 221 y) fun v5 =>
        bn (ld 48 222 y) fun v6 =>
        bn (F_R_runs (0 : Int32) v5 v6) fun v7 =>
        (if v7 = 0 then
          rt (.inl (y + (1 : Int32)))
        else
          rt (.inr y)))
    else
      rt (.inl (y + (1 : Int32))))
  else
    rt (.inr (-1 : Int32)))
set_option maxRecDepth 4000 in
theorem e_b_R_lineOf_2 (f_R_runs : Int32 → Int32 → Int32 → M Int32) (x1 : Int32) (y : Int32) : wf (β := (Int32) ⊕ (Int32)) L X q_R_lineOf 1 (cs_R_lineOf f_R_runs) [2] [2] (fun pc ls st => mC (Nat.beq pc 2) (mN st <| gI ls 2 fun a2 => rt (.inl a2)) (fl)) (fun v => match v with | some (_, .int x) => rt (.inr x) | _ => fl) 46 2 [(112, .ref 207), (0, .int x1), (0, .int y)] [] = (bn (ld 2 218 (0 : Int32)) fun v1 =>
  (if y < v1 then
    bn (ld 48 219 y) fun v2 =>
    (if v2 = x1 then
      bn (ld 48 221 y) fun v3 =>
      bn (ld 48 222 y) fun v4 =>
      (if v3 = v4 then
        rt (.inr y)
      else
        bn (ld 48 221 y) fun v5 =>
        bn (ld 48 222 y) fun v6 =>
        bn (f_R_runs (0 : Int32) v5 v6) fun v7 =>
        (if v7 = 0 then
          rt (.inl (y + (1 : Int32)))
        else
          rt (.inr y)))
    else
      rt (.inl (y + (1 : Int32))))
  else
    rt (.inr (-1 : Int32)))) := rfl
theorem b_R_lineOf_2 {d : Nat} (hcs : AllS L X d (cs_R_lineOf F_R_runs)) (x1 : Int32) {o : Option Value × PH} {Q : ((Int32) ⊕ (Int32)) → MI → Prop} (qb : ∀ y I, Q (.inl y) I → At L X (d + 1) 259 2 [(112, .ref 207), (0, .int x1), (0, .int y)] [] I o) (qr : ∀ v I, Q (.inr v) I → o = (some (.int v), HH I)) (y : Int32) (I : MI) (r : (Int32) ⊕ (Int32)) (I1 : MI) (h : B_R_lineOf_2 x1 y I = some (r, I1)) (hq : Q r I1) : At L X (d + 1) 259 2 [(112, .ref 207), (0, .int x1), (0, .int y)] [] I o := by
  refine wf_ok z_R_lineOf hcs ?_ ?_ _ _ _ _ _ ⟨rfl, trivial, trivial, trivial⟩ trivial (unm_refl _ _) ((congrFun (e_b_R_lineOf_2 (L := L) (X := X) F_R_runs x1 y) I).trans h)
  · intro pc ls st I2 h1 h2 h3 h
    rcases mC_ok h with ⟨hb, h⟩ | ⟨_, h⟩
    · have e := Nat.eq_of_beq_eq_true hb
      subst e
      obtain ⟨hst, h⟩ := mN_ok h
      subst hst
      obtain ⟨a2, n2, h⟩ := gI_ok h
      refine at_leaf (ls2 := [(112, .ref 207), (0, .int x1), (0, .int a2)]) h3.1 ⟨Or.inr ⟨_, (h3.2 0 rfl).trans rfl⟩, Or.inr ⟨_, (h3.2 1 rfl).trans rfl⟩, Or.inr n2, trivial⟩ ?_
      cases h; exact qb _ _ hq
    cases h
  · intro v I2 _ h
    split at h
    · cases h; exact qr _ _ hq
    · cases h
def K_R_lineOf_2 (x1 : Int32) (x2 : Int32) : M (Int32) :=
  lp (B_R_lineOf_2 x1) FU x2
theorem s_R_lineOf_2 {d : Nat} (hcs : AllS L X d (cs_R_lineOf F_R_runs)) (x1 : Int32) (x2 : Int32) {o : Option Value × PH} {Q : (Int32) → MI → Prop} (q0 : ∀ v I, Q v I → o = (some (.int v), HH I)) (I : MI) (r : Int32) (I1 : MI) (h : K_R_lineOf_2 x1 x2 I = some (r, I1)) (hq : Q r I1) : At L X (d + 1) 259 2 [(112, .ref 207), (0, .int x1), (0, .int x2)] [] I o := by
  unfold K_R_lineOf_2 at h
  have w0 := fun w => at_lp (body := B_R_lineOf_2 x1) (P := (fun (y : Int32) I => At L X (d + 1) 259 2 [(112, .ref 207), (0, .int x1), (0, .int y)] [] I o)) (Q := (fun (e : Int32) I => Q e I)) w FU x2 I r I1 h hq
  refine w0 ?_
  intro y I r I1 h hq
  exact b_R_lineOf_2 hcs x1 (Q := SQ (fun (y : Int32) I => At L X (d + 1) 259 2 [(112, .ref 207), (0, .int x1), (0, .int y)] [] I o) (fun (e : Int32) I => Q e I)) (fun _ _ w => w) q0 y I r I1 h hq
def F_R_lineOf (x1 : Int32) : M (Int32) :=
  K_R_lineOf_2 x1 (0 : Int32)
set_option maxRecDepth 4000 in
theorem e_s_R_lineOf_0 (f_R_runs : Int32 → Int32 → Int32 → M Int32) (k_2 : Int32 → Int32 → M (Int32)) (x1 : Int32) : wf (β := Int32) L X q_R_lineOf 1 (cs_R_lineOf f_R_runs) [2] [2] (fun pc ls st => mC (Nat.beq pc 2) (mN st <| gI ls 2 fun a2 => k_2 x1 a2) (fl)) (fun v => match v with | some (_, .int x) => rt x | _ => fl) 46 0 [(112, .ref 207), (0, .int x1), (0, dV)] [] = (k_2 x1 (0 : Int32)) := rfl
theorem s_R_lineOf_0 {d : Nat} (hcs : AllS L X d (cs_R_lineOf F_R_runs)) (x1 : Int32) {o : Option Value × PH} {Q : (Int32) → MI → Prop} (q0 : ∀ v I, Q v I → o = (some (.int v), HH I)) (I : MI) (r : Int32) (I1 : MI) (h : F_R_lineOf x1 I = some (r, I1)) (hq : Q r I1) : At L X (d + 1) 259 0 [(112, .ref 207), (0, .int x1), (0, dV)] [] I o := by
  refine wf_ok z_R_lineOf hcs ?_ ?_ _ _ _ _ _ ⟨rfl, trivial, trivial, trivial⟩ trivial (unm_refl _ _) ((congrFun (e_s_R_lineOf_0 (L := L) (X := X) F_R_runs K_R_lineOf_2 x1) I).trans h)
  · intro pc ls st I2 h1 h2 h3 h
    rcases mC_ok h with ⟨hb, h⟩ | ⟨_, h⟩
    · have e := Nat.eq_of_beq_eq_true hb
      subst e
      obtain ⟨hst, h⟩ := mN_ok h
      subst hst
      obtain ⟨a2, n2, h⟩ := gI_ok h
      refine at_leaf (ls2 := [(112, .ref 207), (0, .int x1), (0, .int a2)]) h3.1 ⟨Or.inr ⟨_, (h3.2 0 rfl).trans rfl⟩, Or.inr ⟨_, (h3.2 1 rfl).trans rfl⟩, Or.inr n2, trivial⟩ ?_
      exact s_R_lineOf_2 hcs x1 a2 q0 _ _ _ h hq
    cases h
  · intro v I2 _ h
    split at h
    · cases h; exact q0 _ _ hq
    · cases h
theorem w_R_lineOf {d : Nat} (hcs : AllS L X d (cs_R_lineOf F_R_runs)) : Snd L X (d + 1) 259 2 (W_R_lineOf F_R_lineOf) := by
  refine ⟨_, z_R_lineOf, rfl, fun β args k I r hty hlen h => ?_⟩
  unfold W_R_lineOf at h
  split at h
  · rename_i t0 a0 u1 a1
    obtain ⟨hb0, h⟩ := mB_ok h
    have e0 := Nat.eq_of_beq_eq_true hb0
    have g0 : okB 112 a0 = true := e0 ▸ hty.1
    have e20 := one_112 g0
    subst e20
    obtain ⟨v, I1, h1, h2⟩ := bn_some h
    refine ⟨gf_obj (c := 12) (by decide) g0, rfl, some (0, .int v), I1, trivial, ?_, h2⟩
    exact s_R_lineOf_0 hcs a1  (Q := fun w I => w = v ∧ I = I1) (fun w I q => by obtain ⟨rfl, rfl⟩ := q; rfl) I v I1 h1 ⟨rfl, rfl⟩
  · cases h
theorem S_R_lineOf {d : Nat} (hd : 3 ≤ d) : Snd L X d 259 2 (W_R_lineOf F_R_lineOf) := by
  obtain ⟨e, rfl⟩ : ∃ e, d = e + 1 := ⟨d - 1, by omega⟩
  exact w_R_lineOf ⟨S_R_runs (by omega), trivial⟩
set_option maxRecDepth 100000 in
theorem z_R_lawTells : pT[258]? = some (q_R_lawTells, 4, 5, 1, 12) := rfl
def W_R_lawTells (F : Int32 → Int32 → Int32 → M Int32) : CSem := fun _ args k => match args with
  | [(t0, .ref a0), (_, .int a1), (_, .int a2), (_, .int a3)] => mB (Nat.beq t0 112) <| bn (F a1 a2 a3) fun v => k (some (0, .int v))
  | _ => fl
def cs_R_lawTells (f_R_held : Int32 → Int32 → Int32 → M Int32) (f_R_lineOf : Int32 → M Int32) (f_R_runs : Int32 → Int32 → Int32 → M Int32) : List (Nat × Nat × CSem) := [(262, 4, W_R_held f_R_held), (259, 2, W_R_lineOf f_R_lineOf), (260, 4, W_R_runs f_R_runs)]
def F_R_lawTells (x1 : Int32) (x2 : Int32) (x3 : Int32) : M (Int32) :=
  bn (F_R_lineOf x1) fun v1 =>
  (if v1 = (-1 : Int32) then
    bn (F_R_held x2 (0 : Int32) x3) fun v6 =>
    rt v6
  else
    bn (ld 48 220 v1) fun v2 =>
    bn (ld 48 221 v1) fun v3 =>
    bn (F_R_runs (0 : Int32) v2 v3) fun v4 =>
    bn (F_R_held v4 (0 : Int32) x3) fun v5 =>
    rt v5)
set_option maxRecDepth 4000 in
theorem e_s_R_lawTells_0 (f_R_held : Int32 → Int32 → Int32 → M Int32) (f_R_lineOf : Int32 → M Int32) (f_R_runs : Int32 → Int32 → Int32 → M Int32) (x1 : Int32) (x2 : Int32) (x3 : Int32) : wf (β := Int32) L X q_R_lawTells 1 (cs_R_lawTells f_R_held f_R_lineOf f_R_runs) [4] [] (fun _ _ _ => fl) (fun v => match v with | some (_, .int x) => rt x | _ => fl) 30 0 [(112, .ref 207), (0, .int x1), (0, .int x2), (0, .int x3), (0, dV)] [] = (bn (f_R_lineOf x1) fun v1 =>
  (if v1 = (-1 : Int32) then
    bn (f_R_held x2 (0 : Int32) x3) fun v6 =>
    rt v6
  else
    bn (ld 48 220 v1) fun v2 =>
    bn (ld 48 221 v1) fun v3 =>
    bn (f_R_runs (0 : Int32) v2 v3) fun v4 =>
    bn (f_R_held v4 (0 : Int32) x3) fun v5 =>
    rt v5)) := rfl
theorem s_R_lawTells_0 {d : Nat} (hcs : AllS L X d (cs_R_lawTells F_R_held F_R_lineOf F_R_runs)) (x1 : Int32) (x2 : Int32) (x3 : Int32) {o : Option Value × PH} {Q : (Int32) → MI → Prop} (q0 : ∀ v I, Q v I → o = (some (.int v), HH I)) (I : MI) (r : Int32) (I1 : MI) (h : F_R_lawTells x1 x2 x3 I = some (r, I1)) (hq : Q r I1) : At L X (d + 1) 258 0 [(112, .ref 207), (0, .int x1), (0, .int x2), (0, .int x3), (0, dV)] [] I o := by
  refine wf_ok z_R_lawTells hcs ?_ ?_ _ _ _ _ _ ⟨rfl, trivial, trivial, trivial, trivial, trivial⟩ trivial (unm_refl _ _) ((congrFun (e_s_R_lawTells_0 (L := L) (X := X) F_R_held F_R_lineOf F_R_runs x1 x2 x3) I).trans h)
  · intro pc ls st I2 h1 h2 h3 h
    cases h
  · intro v I2 _ h
    split at h
    · cases h; exact q0 _ _ hq
    · cases h
theorem w_R_lawTells {d : Nat} (hcs : AllS L X d (cs_R_lawTells F_R_held F_R_lineOf F_R_runs)) : Snd L X (d + 1) 258 4 (W_R_lawTells F_R_lawTells) := by
  refine ⟨_, z_R_lawTells, rfl, fun β args k I r hty hlen h => ?_⟩
  unfold W_R_lawTells at h
  split at h
  · rename_i t0 a0 u1 a1 u2 a2 u3 a3
    obtain ⟨hb0, h⟩ := mB_ok h
    have e0 := Nat.eq_of_beq_eq_true hb0
    have g0 : okB 112 a0 = true := e0 ▸ hty.1
    have e20 := one_112 g0
    subst e20
    obtain ⟨v, I1, h1, h2⟩ := bn_some h
    refine ⟨gf_obj (c := 12) (by decide) g0, rfl, some (0, .int v), I1, trivial, ?_, h2⟩
    exact s_R_lawTells_0 hcs a1 a2 a3  (Q := fun w I => w = v ∧ I = I1) (fun w I q => by obtain ⟨rfl, rfl⟩ := q; rfl) I v I1 h1 ⟨rfl, rfl⟩
  · cases h
theorem S_R_lawTells {d : Nat} (hd : 4 ≤ d) : Snd L X d 258 4 (W_R_lawTells F_R_lawTells) := by
  obtain ⟨e, rfl⟩ : ∃ e, d = e + 1 := ⟨d - 1, by omega⟩
  exact w_R_lawTells ⟨S_R_held (by omega), S_R_lineOf (by omega), S_R_runs (by omega), trivial⟩
set_option maxRecDepth 100000 in
theorem z_R_costsOf : pT[267]? = some (q_R_costsOf, 2, 2, 1, 12) := rfl
def W_R_costsOf (F : Int32 → M Int32) : CSem := fun _ args k => match args with
  | [(t0, .ref a0), (_, .int a1)] => mB (Nat.beq t0 112) <| bn (F a1) fun v => k (some (0, .int v))
  | _ => fl
def cs_R_costsOf (f_R_asks : Int32 → M Unit) (f_R_lawTells : Int32 → Int32 → Int32 → M Int32) : List (Nat × Nat × CSem) := [(256, 2, W_R_asks f_R_asks), (258, 4, W_R_lawTells f_R_lawTells)]
def F_R_costsOf (x1 : Int32) : M (Int32) :=
  bn (F_R_asks x1) fun _ =>
  bn (ld 9 229 (0 : Int32)) fun v1 =>
  bn (F_R_lawTells (1 : Int32) ((1 : Int32) + v1) (99 : Int32)) fun v2 =>
  rt v2
set_option maxRecDepth 4000 in
theorem e_s_R_costsOf_0 (f_R_asks : Int32 → M Unit) (f_R_lawTells : Int32 → Int32 → Int32 → M Int32) (x1 : Int32) : wf (β := Int32) L X q_R_costsOf 1 (cs_R_costsOf f_R_asks f_R_lawTells) [] [] (fun _ _ _ => fl) (fun v => match v with | some (_, .int x) => rt x | _ => fl) 19 0 [(112, .ref 207), (0, .int x1)] [] = (bn (f_R_asks x1) fun _ =>
  bn (ld 9 229 (0 : Int32)) fun v1 =>
  bn (f_R_lawTells (1 : Int32) ((1 : Int32) + v1) (99 : Int32)) fun v2 =>
  rt v2) := rfl
theorem s_R_costsOf_0 {d : Nat} (hcs : AllS L X d (cs_R_costsOf F_R_asks F_R_lawTells)) (x1 : Int32) {o : Option Value × PH} {Q : (Int32) → MI → Prop} (q0 : ∀ v I, Q v I → o = (some (.int v), HH I)) (I : MI) (r : Int32) (I1 : MI) (h : F_R_costsOf x1 I = some (r, I1)) (hq : Q r I1) : At L X (d + 1) 267 0 [(112, .ref 207), (0, .int x1)] [] I o := by
  refine wf_ok z_R_costsOf hcs ?_ ?_ _ _ _ _ _ ⟨rfl, trivial, trivial⟩ trivial (unm_refl _ _) ((congrFun (e_s_R_costsOf_0 (L := L) (X := X) F_R_asks F_R_lawTells x1) I).trans h)
  · intro pc ls st I2 h1 h2 h3 h
    cases h
  · intro v I2 _ h
    split at h
    · cases h; exact q0 _ _ hq
    · cases h
theorem w_R_costsOf {d : Nat} (hcs : AllS L X d (cs_R_costsOf F_R_asks F_R_lawTells)) : Snd L X (d + 1) 267 2 (W_R_costsOf F_R_costsOf) := by
  refine ⟨_, z_R_costsOf, rfl, fun β args k I r hty hlen h => ?_⟩
  unfold W_R_costsOf at h
  split at h
  · rename_i t0 a0 u1 a1
    obtain ⟨hb0, h⟩ := mB_ok h
    have e0 := Nat.eq_of_beq_eq_true hb0
    have g0 : okB 112 a0 = true := e0 ▸ hty.1
    have e20 := one_112 g0
    subst e20
    obtain ⟨v, I1, h1, h2⟩ := bn_some h
    refine ⟨gf_obj (c := 12) (by decide) g0, rfl, some (0, .int v), I1, trivial, ?_, h2⟩
    exact s_R_costsOf_0 hcs a1  (Q := fun w I => w = v ∧ I = I1) (fun w I q => by obtain ⟨rfl, rfl⟩ := q; rfl) I v I1 h1 ⟨rfl, rfl⟩
  · cases h
theorem S_R_costsOf {d : Nat} (hd : 5 ≤ d) : Snd L X d 267 2 (W_R_costsOf F_R_costsOf) := by
  obtain ⟨e, rfl⟩ : ∃ e, d = e + 1 := ⟨d - 1, by omega⟩
  exact w_R_costsOf ⟨S_R_asks (by omega), S_R_lawTells (by omega), trivial⟩
set_option maxRecDepth 100000 in
theorem z_R_gainsOf : pT[266]? = some (q_R_gainsOf, 2, 2, 1, 12) := rfl
def W_R_gainsOf (F : Int32 → M Int32) : CSem := fun _ args k => match args with
  | [(t0, .ref a0), (_, .int a1)] => mB (Nat.beq t0 112) <| bn (F a1) fun v => k (some (0, .int v))
  | _ => fl
def cs_R_gainsOf (f_R_asks : Int32 → M Unit) (f_R_lawTells : Int32 → Int32 → Int32 → M Int32) : List (Nat × Nat × CSem) := [(256, 2, W_R_asks f_R_asks), (258, 4, W_R_lawTells f_R_lawTells)]
def F_R_gainsOf (x1 : Int32) : M (Int32) :=
  bn (F_R_asks x1) fun _ =>
  bn (ld 9 229 (0 : Int32)) fun v1 =>
  bn (F_R_lawTells (2 : Int32) ((2 : Int32) * v1) (99 : Int32)) fun v2 =>
  rt v2
set_option maxRecDepth 4000 in
theorem e_s_R_gainsOf_0 (f_R_asks : Int32 → M Unit) (f_R_lawTells : Int32 → Int32 → Int32 → M Int32) (x1 : Int32) : wf (β := Int32) L X q_R_gainsOf 1 (cs_R_gainsOf f_R_asks f_R_lawTells) [] [] (fun _ _ _ => fl) (fun v => match v with | some (_, .int x) => rt x | _ => fl) 19 0 [(112, .ref 207), (0, .int x1)] [] = (bn (f_R_asks x1) fun _ =>
  bn (ld 9 229 (0 : Int32)) fun v1 =>
  bn (f_R_lawTells (2 : Int32) ((2 : Int32) * v1) (99 : Int32)) fun v2 =>
  rt v2) := rfl
theorem s_R_gainsOf_0 {d : Nat} (hcs : AllS L X d (cs_R_gainsOf F_R_asks F_R_lawTells)) (x1 : Int32) {o : Option Value × PH} {Q : (Int32) → MI → Prop} (q0 : ∀ v I, Q v I → o = (some (.int v), HH I)) (I : MI) (r : Int32) (I1 : MI) (h : F_R_gainsOf x1 I = some (r, I1)) (hq : Q r I1) : At L X (d + 1) 266 0 [(112, .ref 207), (0, .int x1)] [] I o := by
  refine wf_ok z_R_gainsOf hcs ?_ ?_ _ _ _ _ _ ⟨rfl, trivial, trivial⟩ trivial (unm_refl _ _) ((congrFun (e_s_R_gainsOf_0 (L := L) (X := X) F_R_asks F_R_lawTells x1) I).trans h)
  · intro pc ls st I2 h1 h2 h3 h
    cases h
  · intro v I2 _ h
    split at h
    · cases h; exact q0 _ _ hq
    · cases h
theorem w_R_gainsOf {d : Nat} (hcs : AllS L X d (cs_R_gainsOf F_R_asks F_R_lawTells)) : Snd L X (d + 1) 266 2 (W_R_gainsOf F_R_gainsOf) := by
  refine ⟨_, z_R_gainsOf, rfl, fun β args k I r hty hlen h => ?_⟩
  unfold W_R_gainsOf at h
  split at h
  · rename_i t0 a0 u1 a1
    obtain ⟨hb0, h⟩ := mB_ok h
    have e0 := Nat.eq_of_beq_eq_true hb0
    have g0 : okB 112 a0 = true := e0 ▸ hty.1
    have e20 := one_112 g0
    subst e20
    obtain ⟨v, I1, h1, h2⟩ := bn_some h
    refine ⟨gf_obj (c := 12) (by decide) g0, rfl, some (0, .int v), I1, trivial, ?_, h2⟩
    exact s_R_gainsOf_0 hcs a1  (Q := fun w I => w = v ∧ I = I1) (fun w I q => by obtain ⟨rfl, rfl⟩ := q; rfl) I v I1 h1 ⟨rfl, rfl⟩
  · cases h
theorem S_R_gainsOf {d : Nat} (hd : 5 ≤ d) : Snd L X d 266 2 (W_R_gainsOf F_R_gainsOf) := by
  obtain ⟨e, rfl⟩ : ∃ e, d = e + 1 := ⟨d - 1, by omega⟩
  exact w_R_gainsOf ⟨S_R_asks (by omega), S_R_lawTells (by omega), trivial⟩
set_option maxRecDepth 100000 in
theorem z_R_livesOn : pT[265]? = some (q_R_livesOn, 2, 5, 0, 12) := rfl
def W_R_livesOn (F : Int32 → M Unit) : CSem := fun _ args k => match args with
  | [(t0, .ref a0), (_, .int a1)] => mB (Nat.beq t0 112) <| bn (F a1) fun _ => k none
  | _ => fl
def cs_R_livesOn (f_R_costsOf : Int32 → M Int32) (f_R_gainsOf : Int32 → M Int32) (f_R_lesser : Int32 → Int32 → M Int32) : List (Nat × Nat × CSem) := [(267, 2, W_R_costsOf f_R_costsOf), (266, 2, W_R_gainsOf f_R_gainsOf), (248, 3, W_R_lesser f_R_lesser)]
def F_R_livesOn (x1 : Int32) : M (Unit) :=
  bn (ld 18 212 x1) fun v1 =>
  bn (ld 95 208 ((17 : Int32) + v1)) fun v2 =>
  bn (F_R_gainsOf x1) fun v3 =>
  bn (F_R_lesser (9999 : Int32) (v2 + v3)) fun v4 =>
  bn (sr 95 208 ((17 : Int32) + v1) v4) fun _ =>
  bn (F_R_costsOf x1) fun v5 =>
  bn (ld 95 208 ((17 : Int32) + v1)) fun v6 =>
  bn (F_R_lesser v5 v6) fun v7 =>
  bn (ld 95 208 ((17 : Int32) + v1)) fun v8 =>
  bn (sr 95 208 ((17 : Int32) + v1) (v8 - v7)) fun _ =>
  bn (ld 95 208 (4 : Int32)) fun v9 =>
  bn (sr 95 208 (4 : Int32) ((v9 + v5) - v7)) fun _ =>
  rt ()
set_option maxRecDepth 4000 in
theorem e_s_R_livesOn_0 (f_R_costsOf : Int32 → M Int32) (f_R_gainsOf : Int32 → M Int32) (f_R_lesser : Int32 → Int32 → M Int32) (x1 : Int32) : wf (β := Unit) L X q_R_livesOn 0 (cs_R_livesOn f_R_costsOf f_R_gainsOf f_R_lesser) [2, 3, 4] [] (fun _ _ _ => fl) (fun v => match v with | none => rt () | _ => fl) 62 0 [(112, .ref 207), (0, .int x1), (0, dV), (0, dV), (0, dV)] [] = (bn (ld 18 212 x1) fun v1 =>
  bn (ld 95 208 ((17 : Int32) + v1)) fun v2 =>
  bn (f_R_gainsOf x1) fun v3 =>
  bn (f_R_lesser (9999 : Int32) (v2 + v3)) fun v4 =>
  bn (sr 95 208 ((17 : Int32) + v1) v4) fun _ =>
  bn (f_R_costsOf x1) fun v5 =>
  bn (ld 95 208 ((17 : Int32) + v1)) fun v6 =>
  bn (f_R_lesser v5 v6) fun v7 =>
  bn (ld 95 208 ((17 : Int32) + v1)) fun v8 =>
  bn (sr 95 208 ((17 : Int32) + v1) (v8 - v7)) fun _ =>
  bn (ld 95 208 (4 : Int32)) fun v9 =>
  bn (sr 95 208 (4 : Int32) ((v9 + v5) - v7)) fun _ =>
  rt ()) := rfl
theorem s_R_livesOn_0 {d : Nat} (hcs : AllS L X d (cs_R_livesOn F_R_costsOf F_R_gainsOf F_R_lesser)) (x1 : Int32) {o : Option Value × PH} {Q : (Unit) → MI → Prop} (q0 : ∀ v I, Q v I → o = (none, HH I)) (I : MI) (r : Unit) (I1 : MI) (h : F_R_livesOn x1 I = some (r, I1)) (hq : Q r I1) : At L X (d + 1) 265 0 [(112, .ref 207), (0, .int x1), (0, dV), (0, dV), (0, dV)] [] I o := by
  refine wf_ok z_R_livesOn hcs ?_ ?_ _ _ _ _ _ ⟨rfl, trivial, trivial, trivial, trivial, trivial⟩ trivial (unm_refl _ _) ((congrFun (e_s_R_livesOn_0 (L := L) (X := X) F_R_costsOf F_R_gainsOf F_R_lesser x1) I).trans h)
  · intro pc ls st I2 h1 h2 h3 h
    cases h
  · intro v I2 _ h
    split at h
    · cases h; exact q0 _ _ hq
    · cases h
theorem w_R_livesOn {d : Nat} (hcs : AllS L X d (cs_R_livesOn F_R_costsOf F_R_gainsOf F_R_lesser)) : Snd L X (d + 1) 265 2 (W_R_livesOn F_R_livesOn) := by
  refine ⟨_, z_R_livesOn, rfl, fun β args k I r hty hlen h => ?_⟩
  unfold W_R_livesOn at h
  split at h
  · rename_i t0 a0 u1 a1
    obtain ⟨hb0, h⟩ := mB_ok h
    have e0 := Nat.eq_of_beq_eq_true hb0
    have g0 : okB 112 a0 = true := e0 ▸ hty.1
    have e20 := one_112 g0
    subst e20
    obtain ⟨v, I1, h1, h2⟩ := bn_some h
    refine ⟨gf_obj (c := 12) (by decide) g0, rfl, none, I1, trivial, ?_, h2⟩
    exact s_R_livesOn_0 hcs a1  (Q := fun w I => w = v ∧ I = I1) (fun w I q => by obtain ⟨rfl, rfl⟩ := q; rfl) I v I1 h1 ⟨rfl, rfl⟩
  · cases h
theorem S_R_livesOn {d : Nat} (hd : 6 ≤ d) : Snd L X d 265 2 (W_R_livesOn F_R_livesOn) := by
  obtain ⟨e, rfl⟩ : ∃ e, d = e + 1 := ⟨d - 1, by omega⟩
  exact w_R_livesOn ⟨S_R_costsOf (by omega), S_R_gainsOf (by omega), S_R_lesser (by omega), trivial⟩
set_option maxRecDepth 100000 in
theorem z_R_draw : pT[263]? = some (q_R_draw, 2, 2, 1, 12) := rfl
def W_R_draw (F : Int32 → M Int32) : CSem := fun _ args k => match args with
  | [(t0, .ref a0), (_, .int a1)] => mB (Nat.beq t0 112) <| bn (F a1) fun v => k (some (0, .int v))
  | _ => fl
def cs_R_draw : List (Nat × Nat × CSem) := []
def F_R_draw (x1 : Int32) : M (Int32) :=
  bn (ld 95 208 (2 : Int32)) fun v1 =>
  bn (sr 95 208 (2 : Int32) (((1664525 : Int32) * v1) + (1013904223 : Int32))) fun _ =>
  bn (ld 95 208 (2 : Int32)) fun v2 =>
  dvI x1 <|
  rt ((ush v2 (8 : Int32)) - (ush v2 (8 : Int32)) / x1 * x1)
set_option maxRecDepth 4000 in
theorem e_s_R_draw_0 (x1 : Int32) : wf (β := Int32) L X q_R_draw 1 cs_R_draw [] [] (fun _ _ _ => fl) (fun v => match v with | some (_, .int x) => rt x | _ => fl) 26 0 [(112, .ref 207), (0, .int x1)] [] = (bn (ld 95 208 (2 : Int32)) fun v1 =>
  bn (sr 95 208 (2 : Int32) (((1664525 : Int32) * v1) + (1013904223 : Int32))) fun _ =>
  bn (ld 95 208 (2 : Int32)) fun v2 =>
  dvI x1 <|
  rt ((ush v2 (8 : Int32)) - (ush v2 (8 : Int32)) / x1 * x1)) := rfl
theorem s_R_draw_0 {d : Nat} (hcs : AllS L X d cs_R_draw) (x1 : Int32) {o : Option Value × PH} {Q : (Int32) → MI → Prop} (q0 : ∀ v I, Q v I → o = (some (.int v), HH I)) (I : MI) (r : Int32) (I1 : MI) (h : F_R_draw x1 I = some (r, I1)) (hq : Q r I1) : At L X (d + 1) 263 0 [(112, .ref 207), (0, .int x1)] [] I o := by
  refine wf_ok z_R_draw hcs ?_ ?_ _ _ _ _ _ ⟨rfl, trivial, trivial⟩ trivial (unm_refl _ _) ((congrFun (e_s_R_draw_0 (L := L) (X := X) x1) I).trans h)
  · intro pc ls st I2 h1 h2 h3 h
    cases h
  · intro v I2 _ h
    split at h
    · cases h; exact q0 _ _ hq
    · cases h
theorem w_R_draw {d : Nat} (hcs : AllS L X d cs_R_draw) : Snd L X (d + 1) 263 2 (W_R_draw F_R_draw) := by
  refine ⟨_, z_R_draw, rfl, fun β args k I r hty hlen h => ?_⟩
  unfold W_R_draw at h
  split at h
  · rename_i t0 a0 u1 a1
    obtain ⟨hb0, h⟩ := mB_ok h
    have e0 := Nat.eq_of_beq_eq_true hb0
    have g0 : okB 112 a0 = true := e0 ▸ hty.1
    have e20 := one_112 g0
    subst e20
    obtain ⟨v, I1, h1, h2⟩ := bn_some h
    refine ⟨gf_obj (c := 12) (by decide) g0, rfl, some (0, .int v), I1, trivial, ?_, h2⟩
    exact s_R_draw_0 hcs a1  (Q := fun w I => w = v ∧ I = I1) (fun w I q => by obtain ⟨rfl, rfl⟩ := q; rfl) I v I1 h1 ⟨rfl, rfl⟩
  · cases h
theorem S_R_draw {d : Nat} (hd : 1 ≤ d) : Snd L X d 263 2 (W_R_draw F_R_draw) := by
  obtain ⟨e, rfl⟩ : ∃ e, d = e + 1 := ⟨d - 1, by omega⟩
  exact w_R_draw trivial
set_option maxRecDepth 100000 in
theorem z_R_isWithAnother : pT[264]? = some (q_R_isWithAnother, 2, 3, 2, 12) := rfl
def W_R_isWithAnother (F : Int32 → M Int32) : CSem := fun _ args k => match args with
  | [(t0, .ref a0), (_, .int a1)] => mB (Nat.beq t0 112) <| bn (F a1) fun v => k (some (0, .int v))
  | _ => fl
def cs_R_isWithAnother (f_R_isOut : Int32 → M Int32) : List (Nat × Nat × CSem) := [(252, 2, W_R_isOut f_R_isOut)]
def B_R_isWithAnother_2 (x1 : Int32) (y : Int32) : M ((Int32) ⊕ (Int32)) :=
  bn (rd 207 7) fun v1 =>
  (if y < v1 then
    (if y = x1 then
      rt (.inl (y + (1 : Int32)))
    else
      bn (ld 18 212 y) fun v2 =>
      bn (ld 18 212 x1) fun v3 =>
      (if v2 = v3 then
        bn (F_R_isOut y) fun v4 =>
        (if v4 = 0 then
          rt (.inl (y + (1 : Int32)))
        else
          bn (ld 95 208 ((23 : Int32) + y)) fun v5 =>
          bn (ld 95 208 ((23 : Int32) + x1)) fun v6 =>
          (if v5 = v6 then
            bn (gdZ (1 : Int32)) fun _ => rt (.inr (1 : Int32))
          else
            rt (.inl (y + (1 : Int32)))))
      else
        rt (.inl (y + (1 : Int32)))))
  else
    bn (gdZ (0 : Int32)) fun _ => rt (.inr (0 : Int32)))
set_option maxRecDepth 4000 in
theorem e_b_R_isWithAnother_2 (f_R_isOut : Int32 → M Int32) (x1 : Int32) (y : Int32) : wf (β := (Int32) ⊕ (Int32)) L X q_R_isWithAnother 2 (cs_R_isWithAnother f_R_isOut) [2] [2] (fun pc ls st => mC (Nat.beq pc 2) (mN st <| gI ls 2 fun a2 => rt (.inl a2)) (fl)) (fun v => match v with | some (_, .int x) => rt (.inr x) | _ => fl) 46 2 [(112, .ref 207), (0, .int x1), (0, .int y)] [] = (bn (rd 207 7) fun v1 =>
  (if y < v1 then
    (if y = x1 then
      rt (.inl (y + (1 : Int32)))
    else
      bn (ld 18 212 y) fun v2 =>
      bn (ld 18 212 x1) fun v3 =>
      (if v2 = v3 then
        bn (f_R_isOut y) fun v4 =>
        (if v4 = 0 then
          rt (.inl (y + (1 : Int32)))
        else
          bn (ld 95 208 ((23 : Int32) + y)) fun v5 =>
          bn (ld 95 208 ((23 : Int32) + x1)) fun v6 =>
          (if v5 = v6 then
            bn (gdZ (1 : Int32)) fun _ => rt (.inr (1 : Int32))
          else
            rt (.inl (y + (1 : Int32)))))
      else
        rt (.inl (y + (1 : Int32)))))
  else
    bn (gdZ (0 : Int32)) fun _ => rt (.inr (0 : Int32)))) := rfl
theorem b_R_isWithAnother_2 {d : Nat} (hcs : AllS L X d (cs_R_isWithAnother F_R_isOut)) (x1 : Int32) {o : Option Value × PH} {Q : ((Int32) ⊕ (Int32)) → MI → Prop} (qb : ∀ y I, Q (.inl y) I → At L X (d + 1) 264 2 [(112, .ref 207), (0, .int x1), (0, .int y)] [] I o) (qr : ∀ v I, Q (.inr v) I → o = (some (.int v), HH I)) (y : Int32) (I : MI) (r : (Int32) ⊕ (Int32)) (I1 : MI) (h : B_R_isWithAnother_2 x1 y I = some (r, I1)) (hq : Q r I1) : At L X (d + 1) 264 2 [(112, .ref 207), (0, .int x1), (0, .int y)] [] I o := by
  refine wf_ok z_R_isWithAnother hcs ?_ ?_ _ _ _ _ _ ⟨rfl, trivial, trivial, trivial⟩ trivial (unm_refl _ _) ((congrFun (e_b_R_isWithAnother_2 (L := L) (X := X) F_R_isOut x1 y) I).trans h)
  · intro pc ls st I2 h1 h2 h3 h
    rcases mC_ok h with ⟨hb, h⟩ | ⟨_, h⟩
    · have e := Nat.eq_of_beq_eq_true hb
      subst e
      obtain ⟨hst, h⟩ := mN_ok h
      subst hst
      obtain ⟨a2, n2, h⟩ := gI_ok h
      refine at_leaf (ls2 := [(112, .ref 207), (0, .int x1), (0, .int a2)]) h3.1 ⟨Or.inr ⟨_, (h3.2 0 rfl).trans rfl⟩, Or.inr ⟨_, (h3.2 1 rfl).trans rfl⟩, Or.inr n2, trivial⟩ ?_
      cases h; exact qb _ _ hq
    cases h
  · intro v I2 _ h
    split at h
    · cases h; exact qr _ _ hq
    · cases h
def K_R_isWithAnother_2 (x1 : Int32) (x2 : Int32) : M (Int32) :=
  lp (B_R_isWithAnother_2 x1) FU x2
theorem s_R_isWithAnother_2 {d : Nat} (hcs : AllS L X d (cs_R_isWithAnother F_R_isOut)) (x1 : Int32) (x2 : Int32) {o : Option Value × PH} {Q : (Int32) → MI → Prop} (q0 : ∀ v I, Q v I → o = (some (.int v), HH I)) (I : MI) (r : Int32) (I1 : MI) (h : K_R_isWithAnother_2 x1 x2 I = some (r, I1)) (hq : Q r I1) : At L X (d + 1) 264 2 [(112, .ref 207), (0, .int x1), (0, .int x2)] [] I o := by
  unfold K_R_isWithAnother_2 at h
  have w0 := fun w => at_lp (body := B_R_isWithAnother_2 x1) (P := (fun (y : Int32) I => At L X (d + 1) 264 2 [(112, .ref 207), (0, .int x1), (0, .int y)] [] I o)) (Q := (fun (e : Int32) I => Q e I)) w FU x2 I r I1 h hq
  refine w0 ?_
  intro y I r I1 h hq
  exact b_R_isWithAnother_2 hcs x1 (Q := SQ (fun (y : Int32) I => At L X (d + 1) 264 2 [(112, .ref 207), (0, .int x1), (0, .int y)] [] I o) (fun (e : Int32) I => Q e I)) (fun _ _ w => w) q0 y I r I1 h hq
def F_R_isWithAnother (x1 : Int32) : M (Int32) :=
  K_R_isWithAnother_2 x1 (0 : Int32)
set_option maxRecDepth 4000 in
theorem e_s_R_isWithAnother_0 (f_R_isOut : Int32 → M Int32) (k_2 : Int32 → Int32 → M (Int32)) (x1 : Int32) : wf (β := Int32) L X q_R_isWithAnother 2 (cs_R_isWithAnother f_R_isOut) [2] [2] (fun pc ls st => mC (Nat.beq pc 2) (mN st <| gI ls 2 fun a2 => k_2 x1 a2) (fl)) (fun v => match v with | some (_, .int x) => rt x | _ => fl) 46 0 [(112, .ref 207), (0, .int x1), (0, dV)] [] = (k_2 x1 (0 : Int32)) := rfl
theorem s_R_isWithAnother_0 {d : Nat} (hcs : AllS L X d (cs_R_isWithAnother F_R_isOut)) (x1 : Int32) {o : Option Value × PH} {Q : (Int32) → MI → Prop} (q0 : ∀ v I, Q v I → o = (some (.int v), HH I)) (I : MI) (r : Int32) (I1 : MI) (h : F_R_isWithAnother x1 I = some (r, I1)) (hq : Q r I1) : At L X (d + 1) 264 0 [(112, .ref 207), (0, .int x1), (0, dV)] [] I o := by
  refine wf_ok z_R_isWithAnother hcs ?_ ?_ _ _ _ _ _ ⟨rfl, trivial, trivial, trivial⟩ trivial (unm_refl _ _) ((congrFun (e_s_R_isWithAnother_0 (L := L) (X := X) F_R_isOut K_R_isWithAnother_2 x1) I).trans h)
  · intro pc ls st I2 h1 h2 h3 h
    rcases mC_ok h with ⟨hb, h⟩ | ⟨_, h⟩
    · have e := Nat.eq_of_beq_eq_true hb
      subst e
      obtain ⟨hst, h⟩ := mN_ok h
      subst hst
      obtain ⟨a2, n2, h⟩ := gI_ok h
      refine at_leaf (ls2 := [(112, .ref 207), (0, .int x1), (0, .int a2)]) h3.1 ⟨Or.inr ⟨_, (h3.2 0 rfl).trans rfl⟩, Or.inr ⟨_, (h3.2 1 rfl).trans rfl⟩, Or.inr n2, trivial⟩ ?_
      exact s_R_isWithAnother_2 hcs x1 a2 q0 _ _ _ h hq
    cases h
  · intro v I2 _ h
    split at h
    · cases h; exact q0 _ _ hq
    · cases h
theorem w_R_isWithAnother {d : Nat} (hcs : AllS L X d (cs_R_isWithAnother F_R_isOut)) : Snd L X (d + 1) 264 2 (W_R_isWithAnother F_R_isWithAnother) := by
  refine ⟨_, z_R_isWithAnother, rfl, fun β args k I r hty hlen h => ?_⟩
  unfold W_R_isWithAnother at h
  split at h
  · rename_i t0 a0 u1 a1
    obtain ⟨hb0, h⟩ := mB_ok h
    have e0 := Nat.eq_of_beq_eq_true hb0
    have g0 : okB 112 a0 = true := e0 ▸ hty.1
    have e20 := one_112 g0
    subst e20
    obtain ⟨v, I1, h1, h2⟩ := bn_some h
    refine ⟨gf_obj (c := 12) (by decide) g0, rfl, some (0, .int v), I1, trivial, ?_, h2⟩
    exact s_R_isWithAnother_0 hcs a1  (Q := fun w I => w = v ∧ I = I1) (fun w I q => by obtain ⟨rfl, rfl⟩ := q; rfl) I v I1 h1 ⟨rfl, rfl⟩
  · cases h
theorem S_R_isWithAnother {d : Nat} (hd : 2 ≤ d) : Snd L X d 264 2 (W_R_isWithAnother F_R_isWithAnother) := by
  obtain ⟨e, rfl⟩ : ∃ e, d = e + 1 := ⟨d - 1, by omega⟩
  exact w_R_isWithAnother ⟨S_R_isOut (by omega), trivial⟩
set_option maxRecDepth 100000 in
theorem z_R_seenOf : pT[255]? = some (q_R_seenOf, 2, 2, 1, 12) := rfl
def W_R_seenOf (F : Int32 → M Int32) : CSem := fun _ args k => match args with
  | [(t0, .ref a0), (_, .int a1)] => mB (Nat.beq t0 112) <| bn (F a1) fun v => k (some (0, .int v))
  | _ => fl
def cs_R_seenOf (f_R_asks : Int32 → M Unit) (f_R_lawTells : Int32 → Int32 → Int32 → M Int32) : List (Nat × Nat × CSem) := [(256, 2, W_R_asks f_R_asks), (258, 4, W_R_lawTells f_R_lawTells)]
def F_R_seenOf (x1 : Int32) : M (Int32) :=
  bn (F_R_asks x1) fun _ =>
  bn (ld 9 229 (2 : Int32)) fun v1 =>
  bn (ld 9 229 (1 : Int32)) fun v2 =>
  bn (F_R_lawTells (0 : Int32) (((100 : Int32) * v1) - ((50 : Int32) * v2)) (1000 : Int32)) fun v3 =>
  rt v3
set_option maxRecDepth 4000 in
theorem e_s_R_seenOf_0 (f_R_asks : Int32 → M Unit) (f_R_lawTells : Int32 → Int32 → Int32 → M Int32) (x1 : Int32) : wf (β := Int32) L X q_R_seenOf 1 (cs_R_seenOf f_R_asks f_R_lawTells) [] [] (fun _ _ _ => fl) (fun v => match v with | some (_, .int x) => rt x | _ => fl) 26 0 [(112, .ref 207), (0, .int x1)] [] = (bn (f_R_asks x1) fun _ =>
  bn (ld 9 229 (2 : Int32)) fun v1 =>
  bn (ld 9 229 (1 : Int32)) fun v2 =>
  bn (f_R_lawTells (0 : Int32) (((100 : Int32) * v1) - ((50 : Int32) * v2)) (1000 : Int32)) fun v3 =>
  rt v3) := rfl
theorem s_R_seenOf_0 {d : Nat} (hcs : AllS L X d (cs_R_seenOf F_R_asks F_R_lawTells)) (x1 : Int32) {o : Option Value × PH} {Q : (Int32) → MI → Prop} (q0 : ∀ v I, Q v I → o = (some (.int v), HH I)) (I : MI) (r : Int32) (I1 : MI) (h : F_R_seenOf x1 I = some (r, I1)) (hq : Q r I1) : At L X (d + 1) 255 0 [(112, .ref 207), (0, .int x1)] [] I o := by
  refine wf_ok z_R_seenOf hcs ?_ ?_ _ _ _ _ _ ⟨rfl, trivial, trivial⟩ trivial (unm_refl _ _) ((congrFun (e_s_R_seenOf_0 (L := L) (X := X) F_R_asks F_R_lawTells x1) I).trans h)
  · intro pc ls st I2 h1 h2 h3 h
    cases h
  · intro v I2 _ h
    split at h
    · cases h; exact q0 _ _ hq
    · cases h
theorem w_R_seenOf {d : Nat} (hcs : AllS L X d (cs_R_seenOf F_R_asks F_R_lawTells)) : Snd L X (d + 1) 255 2 (W_R_seenOf F_R_seenOf) := by
  refine ⟨_, z_R_seenOf, rfl, fun β args k I r hty hlen h => ?_⟩
  unfold W_R_seenOf at h
  split at h
  · rename_i t0 a0 u1 a1
    obtain ⟨hb0, h⟩ := mB_ok h
    have e0 := Nat.eq_of_beq_eq_true hb0
    have g0 : okB 112 a0 = true := e0 ▸ hty.1
    have e20 := one_112 g0
    subst e20
    obtain ⟨v, I1, h1, h2⟩ := bn_some h
    refine ⟨gf_obj (c := 12) (by decide) g0, rfl, some (0, .int v), I1, trivial, ?_, h2⟩
    exact s_R_seenOf_0 hcs a1  (Q := fun w I => w = v ∧ I = I1) (fun w I q => by obtain ⟨rfl, rfl⟩ := q; rfl) I v I1 h1 ⟨rfl, rfl⟩
  · cases h
theorem S_R_seenOf {d : Nat} (hd : 5 ≤ d) : Snd L X d 255 2 (W_R_seenOf F_R_seenOf) := by
  obtain ⟨e, rfl⟩ : ∃ e, d = e + 1 := ⟨d - 1, by omega⟩
  exact w_R_seenOf ⟨S_R_asks (by omega), S_R_lawTells (by omega), trivial⟩
set_option maxRecDepth 100000 in
theorem z_R_mightBeSeen : pT[254]? = some (q_R_mightBeSeen, 2, 5, 0, 12) := rfl
def W_R_mightBeSeen (F : Int32 → M Unit) : CSem := fun _ args k => match args with
  | [(t0, .ref a0), (_, .int a1)] => mB (Nat.beq t0 112) <| bn (F a1) fun _ => k none
  | _ => fl
def cs_R_mightBeSeen (f_R_draw : Int32 → M Int32) (f_R_isWithAnother : Int32 → M Int32) (f_R_lesser : Int32 → Int32 → M Int32) (f_R_seenOf : Int32 → M Int32) (f_R_writes : Int32 → Int32 → Int32 → M Unit) : List (Nat × Nat × CSem) := [(263, 2, W_R_draw f_R_draw), (264, 2, W_R_isWithAnother f_R_isWithAnother), (248, 3, W_R_lesser f_R_lesser), (255, 2, W_R_seenOf f_R_seenOf), (253, 4, W_R_writes f_R_writes)]
def K_R_mightBeSeen_49 (x1 : Int32) : M (Unit) :=
  (if (0 : Int32) = 0 then
    rt ()
  else
    bn (F_R_isWithAnother x1) fun v1 =>
    bn (ld 95 208 ((59 : Int32) + x1)) fun v2 =>
    (if v1 = 0 then
      bn (F_R_lesser (99 : Int32) (v2 + (10 : Int32))) fun v3 =>
      bn (sr 95 208 ((59 : Int32) + x1) v3) fun _ =>
      (if v1 = 0 then
        bn (ld 95 208 ((59 : Int32) + x1)) fun v4 =>
        bn (F_R_writes (0 : Int32) x1 v4) fun _ =>
        rt ()
      else
        bn (ld 95 208 ((59 : Int32) + x1)) fun v5 =>
        bn (F_R_writes (1 : Int32) x1 v5) fun _ =>
        rt ())
    else
      bn (F_R_lesser (99 : Int32) (v2 + (30 : Int32))) fun v6 =>
      bn (sr 95 208 ((59 : Int32) + x1) v6) fun _ =>
      (if v1 = 0 then
        bn (ld 95 208 ((59 : Int32) + x1)) fun v7 =>
        bn (F_R_writes (0 : Int32) x1 v7) fun _ =>
        rt ()
      else
        bn (ld 95 208 ((59 : Int32) + x1)) fun v8 =>
        bn (F_R_writes (1 : Int32) x1 v8) fun _ =>
        rt ())))
set_option maxRecDepth 4000 in
theorem e_s_R_mightBeSeen_49 (f_R_draw : Int32 → M Int32) (f_R_isWithAnother : Int32 → M Int32) (f_R_lesser : Int32 → Int32 → M Int32) (f_R_seenOf : Int32 → M Int32) (f_R_writes : Int32 → Int32 → Int32 → M Unit) (x1 : Int32) : wf (β := Unit) L X q_R_mightBeSeen 0 (cs_R_mightBeSeen f_R_draw f_R_isWithAnother f_R_lesser f_R_seenOf f_R_writes) [3, 4] [49] (fun _ _ _ => fl) (fun v => match v with | none => rt () | _ => fl) 75 49 [(112, .ref 207), (0, .int x1), (0, dV), (0, dV), (0, dV)] [] = ((if (0 : Int32) = 0 then
    rt ()
  else
    bn (f_R_isWithAnother x1) fun v1 =>
    bn (ld 95 208 ((59 : Int32) + x1)) fun v2 =>
    (if v1 = 0 then
      bn (f_R_lesser (99 : Int32) (v2 + (10 : Int32))) fun v3 =>
      bn (sr 95 208 ((59 : Int32) + x1) v3) fun _ =>
      (if v1 = 0 then
        bn (ld 95 208 ((59 : Int32) + x1)) fun v4 =>
        bn (f_R_writes (0 : Int32) x1 v4) fun _ =>
        rt ()
      else
        bn (ld 95 208 ((59 : Int32) + x1)) fun v5 =>
        bn (f_R_writes (1 : Int32) x1 v5) fun _ =>
        rt ())
    else
      bn (f_R_lesser (99 : Int32) (v2 + (30 : Int32))) fun v6 =>
      bn (sr 95 208 ((59 : Int32) + x1) v6) fun _ =>
      (if v1 = 0 then
        bn (ld 95 208 ((59 : Int32) + x1)) fun v7 =>
        bn (f_R_writes (0 : Int32) x1 v7) fun _ =>
        rt ()
      else
        bn (ld 95 208 ((59 : Int32) + x1)) fun v8 =>
        bn (f_R_writes (1 : Int32) x1 v8) fun _ =>
        rt ())))) := rfl
theorem s_R_mightBeSeen_49 {d : Nat} (hcs : AllS L X d (cs_R_mightBeSeen F_R_draw F_R_isWithAnother F_R_lesser F_R_seenOf F_R_writes)) (x1 : Int32) {o : Option Value × PH} {Q : (Unit) → MI → Prop} (q0 : ∀ v I, Q v I → o = (none, HH I)) (I : MI) (r : Unit) (I1 : MI) (h : K_R_mightBeSeen_49 x1 I = some (r, I1)) (hq : Q r I1) : At L X (d + 1) 254 49 [(112, .ref 207), (0, .int x1), (0, dV), (0, dV), (0, dV)] [] I o := by
  refine wf_ok z_R_mightBeSeen hcs ?_ ?_ _ _ _ _ _ ⟨rfl, trivial, trivial, trivial, trivial, trivial⟩ trivial (unm_refl _ _) ((congrFun (e_s_R_mightBeSeen_49 (L := L) (X := X) F_R_draw F_R_isWithAnother F_R_lesser F_R_seenOf F_R_writes x1) I).trans h)
  · intro pc ls st I2 h1 h2 h3 h
    cases h
  · intro v I2 _ h
    split at h
    · cases h; exact q0 _ _ hq
    · cases h
def F_R_mightBeSeen (x1 : Int32) : M (Unit) :=
  bn (F_R_seenOf x1) fun v1 =>
  bn (rd 207 5) fun v2 =>
  (if v2 = 0 then
    (if 0 < v1 then
      bn (F_R_draw (1000 : Int32)) fun v3 =>
      (if v3 < v1 then
        (if (1 : Int32) = 0 then
          rt ()
        else
          bn (F_R_isWithAnother x1) fun v4 =>
          bn (ld 95 208 ((59 : Int32) + x1)) fun v5 =>
          (if v4 = 0 then
            bn (F_R_lesser (99 : Int32) (v5 + (10 : Int32))) fun v6 =>
            bn (sr 95 208 ((59 : Int32) + x1) v6) fun _ =>
            (if v4 = 0 then
              bn (ld 95 208 ((59 : Int32) + x1)) fun v7 =>
              bn (F_R_writes (0 : Int32) x1 v7) fun _ =>
              rt ()
            else
              bn (ld 95 208 ((59 : Int32) + x1)) fun v8 =>
              bn (F_R_writes (1 : Int32) x1 v8) fun _ =>
              rt ())
          else
            bn (F_R_lesser (99 : Int32) (v5 + (30 : Int32))) fun v9 =>
            bn (sr 95 208 ((59 : Int32) + x1) v9) fun _ =>
            (if v4 = 0 then
              bn (ld 95 208 ((59 : Int32) + x1)) fun v10 =>
              bn (F_R_writes (0 : Int32) x1 v10) fun _ =>
              rt ()
            else
              bn (ld 95 208 ((59 : Int32) + x1)) fun v11 =>
              bn (F_R_writes (1 : Int32) x1 v11) fun _ =>
              rt ())))
      else
        K_R_mightBeSeen_49 x1)
    else
      K_R_mightBeSeen_49 x1)
  else
    (if ((2 : Int32) * v1) < (1000 : Int32) then
      (if (0 : Int32) = 0 then
        rt ()
      else
        bn (F_R_isWithAnother x1) fun v12 =>
        bn (ld 95 208 ((59 : Int32) + x1)) fun v13 =>
        (if v12 = 0 then
          bn (F_R_lesser (99 : Int32) (v13 + (10 : Int32))) fun v14 =>
          bn (sr 95 208 ((59 : Int32) + x1) v14) fun _ =>
          (if v12 = 0 then
            bn (ld 95 208 ((59 : Int32) + x1)) fun v15 =>
            bn (F_R_writes (0 : Int32) x1 v15) fun _ =>
            rt ()
          else
            bn (ld 95 208 ((59 : Int32) + x1)) fun v16 =>
            bn (F_R_writes (1 : Int32) x1 v16) fun _ =>
            rt ())
        else
          bn (F_R_lesser (99 : Int32) (v13 + (30 : Int32))) fun v17 =>
          bn (sr 95 208 ((59 : Int32) + x1) v17) fun _ =>
          (if v12 = 0 then
            bn (ld 95 208 ((59 : Int32) + x1)) fun v18 =>
            bn (F_R_writes (0 : Int32) x1 v18) fun _ =>
            rt ()
          else
            bn (ld 95 208 ((59 : Int32) + x1)) fun v19 =>
            bn (F_R_writes (1 : Int32) x1 v19) fun _ =>
            rt ())))
    else
      (if (1 : Int32) = 0 then
        rt ()
      else
        bn (F_R_isWithAnother x1) fun v20 =>
        bn (ld 95 208 ((59 : Int32) + x1)) fun v21 =>
        (if v20 = 0 then
          bn (F_R_lesser (99 : Int32) (v21 + (10 : Int32))) fun v22 =>
          bn (sr 95 208 ((59 : Int32) + x1) v22) fun _ =>
          (if v20 = 0 then
            bn (ld 95 208 ((59 : Int32) + x1)) fun v23 =>
            bn (F_R_writes (0 : Int32) x1 v23) fun _ =>
            rt ()
          else
            bn (ld 95 208 ((59 : Int32) + x1)) fun v24 =>
            bn (F_R_writes (1 : Int32) x1 v24) fun _ =>
            rt ())
        else
          bn (F_R_lesser (99 : Int32) (v21 + (30 : Int32))) fun v25 =>
          bn (sr 95 208 ((59 : Int32) + x1) v25) fun _ =>
          (if v20 = 0 then
            bn (ld 95 208 ((59 : Int32) + x1)) fun v26 =>
            bn (F_R_writes (0 : Int32) x1 v26) fun _ =>
            rt ()
          else
            bn (ld 95 208 ((59 : Int32) + x1)) fun v27 =>
            bn (F_R_writes (1 : Int32) x1 v27) fun _ =>
            rt ())))))
set_option maxRecDepth 4000 in
theorem e_s_R_mightBeSeen_0 (f_R_draw : Int32 → M Int32) (f_R_isWithAnother : Int32 → M Int32) (f_R_lesser : Int32 → Int32 → M Int32) (f_R_seenOf : Int32 → M Int32) (f_R_writes : Int32 → Int32 → Int32 → M Unit) (k_49 : Int32 → M (Unit)) (x1 : Int32) : wf (β := Unit) L X q_R_mightBeSeen 0 (cs_R_mightBeSeen f_R_draw f_R_isWithAnother f_R_lesser f_R_seenOf f_R_writes) [2, 3, 4] [49] (fun pc ls st => mC (Nat.beq pc 49) (mN st <| gD ls 2 <| gD ls 3 <| gD ls 4 <| k_49 x1) (fl)) (fun v => match v with | none => rt () | _ => fl) 75 0 [(112, .ref 207), (0, .int x1), (0, dV), (0, dV), (0, dV)] [] = (bn (f_R_seenOf x1) fun v1 =>
  bn (rd 207 5) fun v2 =>
  (if v2 = 0 then
    (if 0 < v1 then
      bn (f_R_draw (1000 : Int32)) fun v3 =>
      (if v3 < v1 then
        (if (1 : Int32) = 0 then
          rt ()
        else
          bn (f_R_isWithAnother x1) fun v4 =>
          bn (ld 95 208 ((59 : Int32) + x1)) fun v5 =>
          (if v4 = 0 then
            bn (f_R_lesser (99 : Int32) (v5 + (10 : Int32))) fun v6 =>
            bn (sr 95 208 ((59 : Int32) + x1) v6) fun _ =>
            (if v4 = 0 then
              bn (ld 95 208 ((59 : Int32) + x1)) fun v7 =>
              bn (f_R_writes (0 : Int32) x1 v7) fun _ =>
              rt ()
            else
              bn (ld 95 208 ((59 : Int32) + x1)) fun v8 =>
              bn (f_R_writes (1 : Int32) x1 v8) fun _ =>
              rt ())
          else
            bn (f_R_lesser (99 : Int32) (v5 + (30 : Int32))) fun v9 =>
            bn (sr 95 208 ((59 : Int32) + x1) v9) fun _ =>
            (if v4 = 0 then
              bn (ld 95 208 ((59 : Int32) + x1)) fun v10 =>
              bn (f_R_writes (0 : Int32) x1 v10) fun _ =>
              rt ()
            else
              bn (ld 95 208 ((59 : Int32) + x1)) fun v11 =>
              bn (f_R_writes (1 : Int32) x1 v11) fun _ =>
              rt ())))
      else
        k_49 x1)
    else
      k_49 x1)
  else
    (if ((2 : Int32) * v1) < (1000 : Int32) then
      (if (0 : Int32) = 0 then
        rt ()
      else
        bn (f_R_isWithAnother x1) fun v12 =>
        bn (ld 95 208 ((59 : Int32) + x1)) fun v13 =>
        (if v12 = 0 then
          bn (f_R_lesser (99 : Int32) (v13 + (10 : Int32))) fun v14 =>
          bn (sr 95 208 ((59 : Int32) + x1) v14) fun _ =>
          (if v12 = 0 then
            bn (ld 95 208 ((59 : Int32) + x1)) fun v15 =>
            bn (f_R_writes (0 : Int32) x1 v15) fun _ =>
            rt ()
          else
            bn (ld 95 208 ((59 : Int32) + x1)) fun v16 =>
            bn (f_R_writes (1 : Int32) x1 v16) fun _ =>
            rt ())
        else
          bn (f_R_lesser (99 : Int32) (v13 + (30 : Int32))) fun v17 =>
          bn (sr 95 208 ((59 : Int32) + x1) v17) fun _ =>
          (if v12 = 0 then
            bn (ld 95 208 ((59 : Int32) + x1)) fun v18 =>
            bn (f_R_writes (0 : Int32) x1 v18) fun _ =>
            rt ()
          else
            bn (ld 95 208 ((59 : Int32) + x1)) fun v19 =>
            bn (f_R_writes (1 : Int32) x1 v19) fun _ =>
            rt ())))
    else
      (if (1 : Int32) = 0 then
        rt ()
      else
        bn (f_R_isWithAnother x1) fun v20 =>
        bn (ld 95 208 ((59 : Int32) + x1)) fun v21 =>
        (if v20 = 0 then
          bn (f_R_lesser (99 : Int32) (v21 + (10 : Int32))) fun v22 =>
          bn (sr 95 208 ((59 : Int32) + x1) v22) fun _ =>
          (if v20 = 0 then
            bn (ld 95 208 ((59 : Int32) + x1)) fun v23 =>
            bn (f_R_writes (0 : Int32) x1 v23) fun _ =>
            rt ()
          else
            bn (ld 95 208 ((59 : Int32) + x1)) fun v24 =>
            bn (f_R_writes (1 : Int32) x1 v24) fun _ =>
            rt ())
        else
          bn (f_R_lesser (99 : Int32) (v21 + (30 : Int32))) fun v25 =>
          bn (sr 95 208 ((59 : Int32) + x1) v25) fun _ =>
          (if v20 = 0 then
            bn (ld 95 208 ((59 : Int32) + x1)) fun v26 =>
            bn (f_R_writes (0 : Int32) x1 v26) fun _ =>
            rt ()
          else
            bn (ld 95 208 ((59 : Int32) + x1)) fun v27 =>
            bn (f_R_writes (1 : Int32) x1 v27) fun _ =>
            rt ())))))) := rfl
theorem s_R_mightBeSeen_0 {d : Nat} (hcs : AllS L X d (cs_R_mightBeSeen F_R_draw F_R_isWithAnother F_R_lesser F_R_seenOf F_R_writes)) (x1 : Int32) {o : Option Value × PH} {Q : (Unit) → MI → Prop} (q0 : ∀ v I, Q v I → o = (none, HH I)) (I : MI) (r : Unit) (I1 : MI) (h : F_R_mightBeSeen x1 I = some (r, I1)) (hq : Q r I1) : At L X (d + 1) 254 0 [(112, .ref 207), (0, .int x1), (0, dV), (0, dV), (0, dV)] [] I o := by
  refine wf_ok z_R_mightBeSeen hcs ?_ ?_ _ _ _ _ _ ⟨rfl, trivial, trivial, trivial, trivial, trivial⟩ trivial (unm_refl _ _) ((congrFun (e_s_R_mightBeSeen_0 (L := L) (X := X) F_R_draw F_R_isWithAnother F_R_lesser F_R_seenOf F_R_writes K_R_mightBeSeen_49 x1) I).trans h)
  · intro pc ls st I2 h1 h2 h3 h
    rcases mC_ok h with ⟨hb, h⟩ | ⟨_, h⟩
    · have e := Nat.eq_of_beq_eq_true hb
      subst e
      obtain ⟨hst, h⟩ := mN_ok h
      subst hst
      obtain ⟨n2, h⟩ := gD_ok h
      obtain ⟨n3, h⟩ := gD_ok h
      obtain ⟨n4, h⟩ := gD_ok h
      refine at_leaf (ls2 := [(112, .ref 207), (0, .int x1), (0, dV), (0, dV), (0, dV)]) h3.1 ⟨Or.inr ⟨_, (h3.2 0 rfl).trans rfl⟩, Or.inr ⟨_, (h3.2 1 rfl).trans rfl⟩, Or.inl ⟨rfl, n2⟩, Or.inl ⟨rfl, n3⟩, Or.inl ⟨rfl, n4⟩, trivial⟩ ?_
      exact s_R_mightBeSeen_49 hcs x1 q0 _ _ _ h hq
    cases h
  · intro v I2 _ h
    split at h
    · cases h; exact q0 _ _ hq
    · cases h
theorem w_R_mightBeSeen {d : Nat} (hcs : AllS L X d (cs_R_mightBeSeen F_R_draw F_R_isWithAnother F_R_lesser F_R_seenOf F_R_writes)) : Snd L X (d + 1) 254 2 (W_R_mightBeSeen F_R_mightBeSeen) := by
  refine ⟨_, z_R_mightBeSeen, rfl, fun β args k I r hty hlen h => ?_⟩
  unfold W_R_mightBeSeen at h
  split at h
  · rename_i t0 a0 u1 a1
    obtain ⟨hb0, h⟩ := mB_ok h
    have e0 := Nat.eq_of_beq_eq_true hb0
    have g0 : okB 112 a0 = true := e0 ▸ hty.1
    have e20 := one_112 g0
    subst e20
    obtain ⟨v, I1, h1, h2⟩ := bn_some h
    refine ⟨gf_obj (c := 12) (by decide) g0, rfl, none, I1, trivial, ?_, h2⟩
    exact s_R_mightBeSeen_0 hcs a1  (Q := fun w I => w = v ∧ I = I1) (fun w I q => by obtain ⟨rfl, rfl⟩ := q; rfl) I v I1 h1 ⟨rfl, rfl⟩
  · cases h
theorem S_R_mightBeSeen {d : Nat} (hd : 6 ≤ d) : Snd L X d 254 2 (W_R_mightBeSeen F_R_mightBeSeen) := by
  obtain ⟨e, rfl⟩ : ∃ e, d = e + 1 := ⟨d - 1, by omega⟩
  exact w_R_mightBeSeen ⟨S_R_draw (by omega), S_R_isWithAnother (by omega), S_R_lesser (by omega), S_R_seenOf (by omega), S_R_writes (by omega), trivial⟩
set_option maxRecDepth 100000 in
theorem z_R_strikesOff : pT[268]? = some (q_R_strikesOff, 1, 3, 1, 12) := rfl
def W_R_strikesOff (F : M Int32) : CSem := fun _ args k => match args with
  | [(t0, .ref a0)] => mB (Nat.beq t0 112) <| bn (F) fun v => k (some (0, .int v))
  | _ => fl
def cs_R_strikesOff (f_R_goesHome : Int32 → M Unit) (f_R_isStruck : Int32 → M Int32) (f_R_writes : Int32 → Int32 → Int32 → M Unit) : List (Nat × Nat × CSem) := [(249, 2, W_R_goesHome f_R_goesHome), (246, 2, W_R_isStruck f_R_isStruck), (253, 4, W_R_writes f_R_writes)]
def B_R_strikesOff_4 (y : Int32 × Int32) : M ((Int32 × Int32) ⊕ (Int32)) :=
  bn (rd 207 7) fun v1 =>
  (if y.2 < v1 then
    bn (F_R_isStruck y.2) fun v2 =>
    (if v2 = 0 then
      bn (ld 95 208 ((59 : Int32) + y.2)) fun v3 =>
      (if (50 : Int32) < v3 then
        bn (sr 95 208 ((77 : Int32) + y.2) (1 : Int32)) fun _ =>
        bn (F_R_goesHome y.2) fun _ =>
        bn (ld 95 208 (6 : Int32)) fun v4 =>
        bn (sr 95 208 (6 : Int32) (v4 + (1 : Int32))) fun _ =>
        bn (ld 95 208 ((59 : Int32) + y.2)) fun v5 =>
        bn (F_R_writes (3 : Int32) y.2 v5) fun _ =>
        rt (.inl ((y.1 + (1 : Int32)), (y.2 + (1 : Int32))))
      else
        rt (.inl (y.1, (y.2 + (1 : Int32)))))
    else
      rt (.inl (y.1, (y.2 + (1 : Int32)))))
  else
    rt (.inr y.1))
set_option maxRecDepth 4000 in
theorem e_b_R_strikesOff_4 (f_R_goesHome : Int32 → M Unit) (f_R_isStruck : Int32 → M Int32) (f_R_writes : Int32 → Int32 → Int32 → M Unit) (y : Int32 × Int32) : wf (β := (Int32 × Int32) ⊕ (Int32)) L X q_R_strikesOff 1 (cs_R_strikesOff f_R_goesHome f_R_isStruck f_R_writes) [1, 2] [4] (fun pc ls st => mC (Nat.beq pc 4) (mN st <| gI ls 1 fun a1 => gI ls 2 fun a2 => rt (.inl (a1, a2))) (fl)) (fun v => match v with | some (_, .int x) => rt (.inr x) | _ => fl) 64 4 [(112, .ref 207), (0, .int y.1), (0, .int y.2)] [] = (bn (rd 207 7) fun v1 =>
  (if y.2 < v1 then
    bn (f_R_isStruck y.2) fun v2 =>
    (if v2 = 0 then
      bn (ld 95 208 ((59 : Int32) + y.2)) fun v3 =>
      (if (50 : Int32) < v3 then
        bn (sr 95 208 ((77 : Int32) + y.2) (1 : Int32)) fun _ =>
        bn (f_R_goesHome y.2) fun _ =>
        bn (ld 95 208 (6 : Int32)) fun v4 =>
        bn (sr 95 208 (6 : Int32) (v4 + (1 : Int32))) fun _ =>
        bn (ld 95 208 ((59 : Int32) + y.2)) fun v5 =>
        bn (f_R_writes (3 : Int32) y.2 v5) fun _ =>
        rt (.inl ((y.1 + (1 : Int32)), (y.2 + (1 : Int32))))
      else
        rt (.inl (y.1, (y.2 + (1 : Int32)))))
    else
      rt (.inl (y.1, (y.2 + (1 : Int32)))))
  else
    rt (.inr y.1))) := rfl
theorem b_R_strikesOff_4 {d : Nat} (hcs : AllS L X d (cs_R_strikesOff F_R_goesHome F_R_isStruck F_R_writes)) {o : Option Value × PH} {Q : ((Int32 × Int32) ⊕ (Int32)) → MI → Prop} (qb : ∀ y I, Q (.inl y) I → At L X (d + 1) 268 4 [(112, .ref 207), (0, .int y.1), (0, .int y.2)] [] I o) (qr : ∀ v I, Q (.inr v) I → o = (some (.int v), HH I)) (y : Int32 × Int32) (I : MI) (r : (Int32 × Int32) ⊕ (Int32)) (I1 : MI) (h : B_R_strikesOff_4 y I = some (r, I1)) (hq : Q r I1) : At L X (d + 1) 268 4 [(112, .ref 207), (0, .int y.1), (0, .int y.2)] [] I o := by
  refine wf_ok z_R_strikesOff hcs ?_ ?_ _ _ _ _ _ ⟨rfl, trivial, trivial, trivial⟩ trivial (unm_refl _ _) ((congrFun (e_b_R_strikesOff_4 (L := L) (X := X) F_R_goesHome F_R_isStruck F_R_writes y) I).trans h)
  · intro pc ls st I2 h1 h2 h3 h
    rcases mC_ok h with ⟨hb, h⟩ | ⟨_, h⟩
    · have e := Nat.eq_of_beq_eq_true hb
      subst e
      obtain ⟨hst, h⟩ := mN_ok h
      subst hst
      obtain ⟨a1, n1, h⟩ := gI_ok h
      obtain ⟨a2, n2, h⟩ := gI_ok h
      refine at_leaf (ls2 := [(112, .ref 207), (0, .int a1), (0, .int a2)]) h3.1 ⟨Or.inr ⟨_, (h3.2 0 rfl).trans rfl⟩, Or.inr n1, Or.inr n2, trivial⟩ ?_
      cases h; exact qb _ _ hq
    cases h
  · intro v I2 _ h
    split at h
    · cases h; exact qr _ _ hq
    · cases h
def K_R_strikesOff_4 (x1 : Int32) (x2 : Int32) : M (Int32) :=
  lp (B_R_strikesOff_4) FU (x1, x2)
theorem s_R_strikesOff_4 {d : Nat} (hcs : AllS L X d (cs_R_strikesOff F_R_goesHome F_R_isStruck F_R_writes)) (x1 : Int32) (x2 : Int32) {o : Option Value × PH} {Q : (Int32) → MI → Prop} (q0 : ∀ v I, Q v I → o = (some (.int v), HH I)) (I : MI) (r : Int32) (I1 : MI) (h : K_R_strikesOff_4 x1 x2 I = some (r, I1)) (hq : Q r I1) : At L X (d + 1) 268 4 [(112, .ref 207), (0, .int x1), (0, .int x2)] [] I o := by
  unfold K_R_strikesOff_4 at h
  have w0 := fun w => at_lp (body := B_R_strikesOff_4) (P := (fun (y : Int32 × Int32) I => At L X (d + 1) 268 4 [(112, .ref 207), (0, .int y.1), (0, .int y.2)] [] I o)) (Q := (fun (e : Int32) I => Q e I)) w FU (x1, x2) I r I1 h hq
  refine w0 ?_
  intro y I r I1 h hq
  exact b_R_strikesOff_4 hcs (Q := SQ (fun (y : Int32 × Int32) I => At L X (d + 1) 268 4 [(112, .ref 207), (0, .int y.1), (0, .int y.2)] [] I o) (fun (e : Int32) I => Q e I)) (fun _ _ w => w) q0 y I r I1 h hq
def F_R_strikesOff : M (Int32) :=
  K_R_strikesOff_4 (0 : Int32) (0 : Int32)
set_option maxRecDepth 4000 in
theorem e_s_R_strikesOff_0 (f_R_goesHome : Int32 → M Unit) (f_R_isStruck : Int32 → M Int32) (f_R_writes : Int32 → Int32 → Int32 → M Unit) (k_4 : Int32 → Int32 → M (Int32)) : wf (β := Int32) L X q_R_strikesOff 1 (cs_R_strikesOff f_R_goesHome f_R_isStruck f_R_writes) [1, 2] [4] (fun pc ls st => mC (Nat.beq pc 4) (mN st <| gI ls 1 fun a1 => gI ls 2 fun a2 => k_4 a1 a2) (fl)) (fun v => match v with | some (_, .int x) => rt x | _ => fl) 64 0 [(112, .ref 207), (0, dV), (0, dV)] [] = (k_4 (0 : Int32) (0 : Int32)) := rfl
theorem s_R_strikesOff_0 {d : Nat} (hcs : AllS L X d (cs_R_strikesOff F_R_goesHome F_R_isStruck F_R_writes)) {o : Option Value × PH} {Q : (Int32) → MI → Prop} (q0 : ∀ v I, Q v I → o = (some (.int v), HH I)) (I : MI) (r : Int32) (I1 : MI) (h : F_R_strikesOff I = some (r, I1)) (hq : Q r I1) : At L X (d + 1) 268 0 [(112, .ref 207), (0, dV), (0, dV)] [] I o := by
  refine wf_ok z_R_strikesOff hcs ?_ ?_ _ _ _ _ _ ⟨rfl, trivial, trivial, trivial⟩ trivial (unm_refl _ _) ((congrFun (e_s_R_strikesOff_0 (L := L) (X := X) F_R_goesHome F_R_isStruck F_R_writes K_R_strikesOff_4) I).trans h)
  · intro pc ls st I2 h1 h2 h3 h
    rcases mC_ok h with ⟨hb, h⟩ | ⟨_, h⟩
    · have e := Nat.eq_of_beq_eq_true hb
      subst e
      obtain ⟨hst, h⟩ := mN_ok h
      subst hst
      obtain ⟨a1, n1, h⟩ := gI_ok h
      obtain ⟨a2, n2, h⟩ := gI_ok h
      refine at_leaf (ls2 := [(112, .ref 207), (0, .int a1), (0, .int a2)]) h3.1 ⟨Or.inr ⟨_, (h3.2 0 rfl).trans rfl⟩, Or.inr n1, Or.inr n2, trivial⟩ ?_
      exact s_R_strikesOff_4 hcs a1 a2 q0 _ _ _ h hq
    cases h
  · intro v I2 _ h
    split at h
    · cases h; exact q0 _ _ hq
    · cases h
theorem w_R_strikesOff {d : Nat} (hcs : AllS L X d (cs_R_strikesOff F_R_goesHome F_R_isStruck F_R_writes)) : Snd L X (d + 1) 268 1 (W_R_strikesOff F_R_strikesOff) := by
  refine ⟨_, z_R_strikesOff, rfl, fun β args k I r hty hlen h => ?_⟩
  unfold W_R_strikesOff at h
  split at h
  · rename_i t0 a0
    obtain ⟨hb0, h⟩ := mB_ok h
    have e0 := Nat.eq_of_beq_eq_true hb0
    have g0 : okB 112 a0 = true := e0 ▸ hty.1
    have e20 := one_112 g0
    subst e20
    obtain ⟨v, I1, h1, h2⟩ := bn_some h
    refine ⟨gf_obj (c := 12) (by decide) g0, rfl, some (0, .int v), I1, trivial, ?_, h2⟩
    exact s_R_strikesOff_0 hcs   (Q := fun w I => w = v ∧ I = I1) (fun w I q => by obtain ⟨rfl, rfl⟩ := q; rfl) I v I1 h1 ⟨rfl, rfl⟩
  · cases h
theorem S_R_strikesOff {d : Nat} (hd : 2 ≤ d) : Snd L X d 268 1 (W_R_strikesOff F_R_strikesOff) := by
  obtain ⟨e, rfl⟩ : ∃ e, d = e + 1 := ⟨d - 1, by omega⟩
  exact w_R_strikesOff ⟨S_R_goesHome (by omega), S_R_isStruck (by omega), S_R_writes (by omega), trivial⟩
set_option maxRecDepth 100000 in
theorem z_R_goesBy : pT[244]? = some (q_R_goesBy, 1, 3, 1, 12) := rfl
def W_R_goesBy (F : M Int32) : CSem := fun _ args k => match args with
  | [(t0, .ref a0)] => mB (Nat.beq t0 112) <| bn (F) fun v => k (some (0, .int v))
  | _ => fl
def cs_R_goesBy (f_R_bySharesOf : Int32 → M Unit) (f_R_cousinsOf : Int32 → M Unit) (f_R_does : Int32 → M Unit) (f_R_greater : Int32 → Int32 → M Int32) (f_R_isOut : Int32 → M Int32) (f_R_isStruck : Int32 → M Int32) (f_R_livesOn : Int32 → M Unit) (f_R_mightBeSeen : Int32 → M Unit) (f_R_strikesOff : M Int32) : List (Nat × Nat × CSem) := [(250, 2, W_R_bySharesOf f_R_bySharesOf), (251, 2, W_R_cousinsOf f_R_cousinsOf), (245, 2, W_R_does f_R_does), (269, 3, W_R_greater f_R_greater), (252, 2, W_R_isOut f_R_isOut), (246, 2, W_R_isStruck f_R_isStruck), (265, 2, W_R_livesOn f_R_livesOn), (254, 2, W_R_mightBeSeen f_R_mightBeSeen), (268, 1, W_R_strikesOff f_R_strikesOff)]
def B_R_goesBy_2 (y : Int32) : M ((Int32) ⊕ ((Unit))) :=
  bn (rd 207 38) fun v1 =>
  (if y < ((5 : Int32) * v1) then
    bn (ld 160 227 y) fun v2 =>
    bn (ld 95 208 (0 : Int32)) fun v3 =>
    (if v2 = v3 then
      bn (ld 160 227 (y + (1 : Int32))) fun v4 =>
      bn (ld 95 208 (1 : Int32)) fun v5 =>
      (if v4 = v5 then
        bn (F_R_does y) fun _ =>
        rt (.inl (y + (5 : Int32)))
      else
        rt (.inl (y + (5 : Int32))))
    else
      rt (.inl (y + (5 : Int32))))
  else
    rt (.inr ()))
set_option maxRecDepth 4000 in
theorem e_b_R_goesBy_2 (f_R_bySharesOf : Int32 → M Unit) (f_R_cousinsOf : Int32 → M Unit) (f_R_does : Int32 → M Unit) (f_R_greater : Int32 → Int32 → M Int32) (f_R_isOut : Int32 → M Int32) (f_R_isStruck : Int32 → M Int32) (f_R_livesOn : Int32 → M Unit) (f_R_mightBeSeen : Int32 → M Unit) (f_R_strikesOff : M Int32) (y : Int32) : wf (β := (Int32) ⊕ ((Unit))) L X q_R_goesBy 1 (cs_R_goesBy f_R_bySharesOf f_R_cousinsOf f_R_does f_R_greater f_R_isOut f_R_isStruck f_R_livesOn f_R_mightBeSeen f_R_strikesOff) [1] [2, 56, 58, 85, 87, 106, 108, 135, 137, 164, 213] (fun pc ls st => mC (Nat.beq pc 2) (mN st <| gI ls 1 fun a1 => gD ls 2 <| rt (.inl a1)) (mC (Nat.beq pc 56) (mN st <| gD ls 1 <| gD ls 2 <| rt (.inr ())) (fl))) (fun _ => fl) 156 2 [(112, .ref 207), (0, .int y), (0, dV)] [] = (bn (rd 207 38) fun v1 =>
  (if y < ((5 : Int32) * v1) then
    bn (ld 160 227 y) fun v2 =>
    bn (ld 95 208 (0 : Int32)) fun v3 =>
    (if v2 = v3 then
      bn (ld 160 227 (y + (1 : Int32))) fun v4 =>
      bn (ld 95 208 (1 : Int32)) fun v5 =>
      (if v4 = v5 then
        bn (f_R_does y) fun _ =>
        rt (.inl (y + (5 : Int32)))
      else
        rt (.inl (y + (5 : Int32))))
    else
      rt (.inl (y + (5 : Int32))))
  else
    rt (.inr ()))) := rfl
theorem b_R_goesBy_2 {d : Nat} (hcs : AllS L X d (cs_R_goesBy F_R_bySharesOf F_R_cousinsOf F_R_does F_R_greater F_R_isOut F_R_isStruck F_R_livesOn F_R_mightBeSeen F_R_strikesOff)) {o : Option Value × PH} {Q : ((Int32) ⊕ ((Unit))) → MI → Prop} (qb : ∀ y I, Q (.inl y) I → At L X (d + 1) 244 2 [(112, .ref 207), (0, .int y), (0, dV)] [] I o) (qe56 : ∀ y I, Q (.inr y) I → At L X (d + 1) 244 56 [(112, .ref 207), (0, dV), (0, dV)] [] I o) (y : Int32) (I : MI) (r : (Int32) ⊕ ((Unit))) (I1 : MI) (h : B_R_goesBy_2 y I = some (r, I1)) (hq : Q r I1) : At L X (d + 1) 244 2 [(112, .ref 207), (0, .int y), (0, dV)] [] I o := by
  refine wf_ok z_R_goesBy hcs ?_ ?_ _ _ _ _ _ ⟨rfl, trivial, trivial, trivial⟩ trivial (unm_refl _ _) ((congrFun (e_b_R_goesBy_2 (L := L) (X := X) F_R_bySharesOf F_R_cousinsOf F_R_does F_R_greater F_R_isOut F_R_isStruck F_R_livesOn F_R_mightBeSeen F_R_strikesOff y) I).trans h)
  · intro pc ls st I2 h1 h2 h3 h
    rcases mC_ok h with ⟨hb, h⟩ | ⟨_, h⟩
    · have e := Nat.eq_of_beq_eq_true hb
      subst e
      obtain ⟨hst, h⟩ := mN_ok h
      subst hst
      obtain ⟨a1, n1, h⟩ := gI_ok h
      obtain ⟨n2, h⟩ := gD_ok h
      refine at_leaf (ls2 := [(112, .ref 207), (0, .int a1), (0, dV)]) h3.1 ⟨Or.inr ⟨_, (h3.2 0 rfl).trans rfl⟩, Or.inr n1, Or.inl ⟨rfl, n2⟩, trivial⟩ ?_
      cases h; exact qb _ _ hq
    rcases mC_ok h with ⟨hb, h⟩ | ⟨_, h⟩
    · have e := Nat.eq_of_beq_eq_true hb
      subst e
      obtain ⟨hst, h⟩ := mN_ok h
      subst hst
      obtain ⟨n1, h⟩ := gD_ok h
      obtain ⟨n2, h⟩ := gD_ok h
      refine at_leaf (ls2 := [(112, .ref 207), (0, dV), (0, dV)]) h3.1 ⟨Or.inr ⟨_, (h3.2 0 rfl).trans rfl⟩, Or.inl ⟨rfl, n1⟩, Or.inl ⟨rfl, n2⟩, trivial⟩ ?_
      cases h; exact qe56 _ _ hq
    cases h
  · intro v I2 _ h
    cases h
def B_R_goesBy_58 (y : Int32) : M ((Int32) ⊕ ((Unit))) :=
  bn (rd 207 7) fun v1 =>
  (if y < v1 then
    bn (F_R_isStruck y) fun v2 =>
    (if v2 = 0 then
      bn (F_R_bySharesOf y) fun _ =>
      rt (.inl (y + (1 : Int32)))
    else
      rt (.inl (y + (1 : Int32))))
  else
    rt (.inr ()))
set_option maxRecDepth 4000 in
theorem e_b_R_goesBy_58 (f_R_bySharesOf : Int32 → M Unit) (f_R_cousinsOf : Int32 → M Unit) (f_R_does : Int32 → M Unit) (f_R_greater : Int32 → Int32 → M Int32) (f_R_isOut : Int32 → M Int32) (f_R_isStruck : Int32 → M Int32) (f_R_livesOn : Int32 → M Unit) (f_R_mightBeSeen : Int32 → M Unit) (f_R_strikesOff : M Int32) (y : Int32) : wf (β := (Int32) ⊕ ((Unit))) L X q_R_goesBy 1 (cs_R_goesBy f_R_bySharesOf f_R_cousinsOf f_R_does f_R_greater f_R_isOut f_R_isStruck f_R_livesOn f_R_mightBeSeen f_R_strikesOff) [1] [2, 56, 58, 85, 87, 106, 108, 135, 137, 164, 213] (fun pc ls st => mC (Nat.beq pc 58) (mN st <| gI ls 1 fun a1 => gD ls 2 <| rt (.inl a1)) (mC (Nat.beq pc 85) (mN st <| gD ls 1 <| gD ls 2 <| rt (.inr ())) (fl))) (fun _ => fl) 156 58 [(112, .ref 207), (0, .int y), (0, dV)] [] = (bn (rd 207 7) fun v1 =>
  (if y < v1 then
    bn (f_R_isStruck y) fun v2 =>
    (if v2 = 0 then
      bn (f_R_bySharesOf y) fun _ =>
      rt (.inl (y + (1 : Int32)))
    else
      rt (.inl (y + (1 : Int32))))
  else
    rt (.inr ()))) := rfl
theorem b_R_goesBy_58 {d : Nat} (hcs : AllS L X d (cs_R_goesBy F_R_bySharesOf F_R_cousinsOf F_R_does F_R_greater F_R_isOut F_R_isStruck F_R_livesOn F_R_mightBeSeen F_R_strikesOff)) {o : Option Value × PH} {Q : ((Int32) ⊕ ((Unit))) → MI → Prop} (qb : ∀ y I, Q (.inl y) I → At L X (d + 1) 244 58 [(112, .ref 207), (0, .int y), (0, dV)] [] I o) (qe85 : ∀ y I, Q (.inr y) I → At L X (d + 1) 244 85 [(112, .ref 207), (0, dV), (0, dV)] [] I o) (y : Int32) (I : MI) (r : (Int32) ⊕ ((Unit))) (I1 : MI) (h : B_R_goesBy_58 y I = some (r, I1)) (hq : Q r I1) : At L X (d + 1) 244 58 [(112, .ref 207), (0, .int y), (0, dV)] [] I o := by
  refine wf_ok z_R_goesBy hcs ?_ ?_ _ _ _ _ _ ⟨rfl, trivial, trivial, trivial⟩ trivial (unm_refl _ _) ((congrFun (e_b_R_goesBy_58 (L := L) (X := X) F_R_bySharesOf F_R_cousinsOf F_R_does F_R_greater F_R_isOut F_R_isStruck F_R_livesOn F_R_mightBeSeen F_R_strikesOff y) I).trans h)
  · intro pc ls st I2 h1 h2 h3 h
    rcases mC_ok h with ⟨hb, h⟩ | ⟨_, h⟩
    · have e := Nat.eq_of_beq_eq_true hb
      subst e
      obtain ⟨hst, h⟩ := mN_ok h
      subst hst
      obtain ⟨a1, n1, h⟩ := gI_ok h
      obtain ⟨n2, h⟩ := gD_ok h
      refine at_leaf (ls2 := [(112, .ref 207), (0, .int a1), (0, dV)]) h3.1 ⟨Or.inr ⟨_, (h3.2 0 rfl).trans rfl⟩, Or.inr n1, Or.inl ⟨rfl, n2⟩, trivial⟩ ?_
      cases h; exact qb _ _ hq
    rcases mC_ok h with ⟨hb, h⟩ | ⟨_, h⟩
    · have e := Nat.eq_of_beq_eq_true hb
      subst e
      obtain ⟨hst, h⟩ := mN_ok h
      subst hst
      obtain ⟨n1, h⟩ := gD_ok h
      obtain ⟨n2, h⟩ := gD_ok h
      refine at_leaf (ls2 := [(112, .ref 207), (0, dV), (0, dV)]) h3.1 ⟨Or.inr ⟨_, (h3.2 0 rfl).trans rfl⟩, Or.inl ⟨rfl, n1⟩, Or.inl ⟨rfl, n2⟩, trivial⟩ ?_
      cases h; exact qe85 _ _ hq
    cases h
  · intro v I2 _ h
    cases h
def B_R_goesBy_87 (y : Int32) : M ((Int32) ⊕ ((Unit))) :=
  bn (rd 207 6) fun v1 =>
  (if y < v1 then
    bn (F_R_cousinsOf y) fun _ =>
    rt (.inl (y + (1 : Int32)))
  else
    rt (.inr ()))
set_option maxRecDepth 4000 in
theorem e_b_R_goesBy_87 (f_R_bySharesOf : Int32 → M Unit) (f_R_cousinsOf : Int32 → M Unit) (f_R_does : Int32 → M Unit) (f_R_greater : Int32 → Int32 → M Int32) (f_R_isOut : Int32 → M Int32) (f_R_isStruck : Int32 → M Int32) (f_R_livesOn : Int32 → M Unit) (f_R_mightBeSeen : Int32 → M Unit) (f_R_strikesOff : M Int32) (y : Int32) : wf (β := (Int32) ⊕ ((Unit))) L X q_R_goesBy 1 (cs_R_goesBy f_R_bySharesOf f_R_cousinsOf f_R_does f_R_greater f_R_isOut f_R_isStruck f_R_livesOn f_R_mightBeSeen f_R_strikesOff) [1] [2, 56, 58, 85, 87, 106, 108, 135, 137, 164, 213] (fun pc ls st => mC (Nat.beq pc 87) (mN st <| gI ls 1 fun a1 => gD ls 2 <| rt (.inl a1)) (mC (Nat.beq pc 106) (mN st <| gD ls 1 <| gD ls 2 <| rt (.inr ())) (fl))) (fun _ => fl) 156 87 [(112, .ref 207), (0, .int y), (0, dV)] [] = (bn (rd 207 6) fun v1 =>
  (if y < v1 then
    bn (f_R_cousinsOf y) fun _ =>
    rt (.inl (y + (1 : Int32)))
  else
    rt (.inr ()))) := rfl
theorem b_R_goesBy_87 {d : Nat} (hcs : AllS L X d (cs_R_goesBy F_R_bySharesOf F_R_cousinsOf F_R_does F_R_greater F_R_isOut F_R_isStruck F_R_livesOn F_R_mightBeSeen F_R_strikesOff)) {o : Option Value × PH} {Q : ((Int32) ⊕ ((Unit))) → MI → Prop} (qb : ∀ y I, Q (.inl y) I → At L X (d + 1) 244 87 [(112, .ref 207), (0, .int y), (0, dV)] [] I o) (qe106 : ∀ y I, Q (.inr y) I → At L X (d + 1) 244 106 [(112, .ref 207), (0, dV), (0, dV)] [] I o) (y : Int32) (I : MI) (r : (Int32) ⊕ ((Unit))) (I1 : MI) (h : B_R_goesBy_87 y I = some (r, I1)) (hq : Q r I1) : At L X (d + 1) 244 87 [(112, .ref 207), (0, .int y), (0, dV)] [] I o := by
  refine wf_ok z_R_goesBy hcs ?_ ?_ _ _ _ _ _ ⟨rfl, trivial, trivial, trivial⟩ trivial (unm_refl _ _) ((congrFun (e_b_R_goesBy_87 (L := L) (X := X) F_R_bySharesOf F_R_cousinsOf F_R_does F_R_greater F_R_isOut F_R_isStruck F_R_livesOn F_R_mightBeSeen F_R_strikesOff y) I).trans h)
  · intro pc ls st I2 h1 h2 h3 h
    rcases mC_ok h with ⟨hb, h⟩ | ⟨_, h⟩
    · have e := Nat.eq_of_beq_eq_true hb
      subst e
      obtain ⟨hst, h⟩ := mN_ok h
      subst hst
      obtain ⟨a1, n1, h⟩ := gI_ok h
      obtain ⟨n2, h⟩ := gD_ok h
      refine at_leaf (ls2 := [(112, .ref 207), (0, .int a1), (0, dV)]) h3.1 ⟨Or.inr ⟨_, (h3.2 0 rfl).trans rfl⟩, Or.inr n1, Or.inl ⟨rfl, n2⟩, trivial⟩ ?_
      cases h; exact qb _ _ hq
    rcases mC_ok h with ⟨hb, h⟩ | ⟨_, h⟩
    · have e := Nat.eq_of_beq_eq_true hb
      subst e
      obtain ⟨hst, h⟩ := mN_ok h
      subst hst
      obtain ⟨n1, h⟩ := gD_ok h
      obtain ⟨n2, h⟩ := gD_ok h
      refine at_leaf (ls2 := [(112, .ref 207), (0, dV), (0, dV)]) h3.1 ⟨Or.inr ⟨_, (h3.2 0 rfl).trans rfl⟩, Or.inl ⟨rfl, n1⟩, Or.inl ⟨rfl, n2⟩, trivial⟩ ?_
      cases h; exact qe106 _ _ hq
    cases h
  · intro v I2 _ h
    cases h
def B_R_goesBy_108 (y : Int32) : M ((Int32) ⊕ ((Unit))) :=
  bn (rd 207 7) fun v1 =>
  (if y < v1 then
    bn (F_R_isOut y) fun v2 =>
    (if v2 = 0 then
      rt (.inl (y + (1 : Int32)))
    else
      bn (F_R_mightBeSeen y) fun _ =>
      rt (.inl (y + (1 : Int32))))
  else
    rt (.inr ()))
set_option maxRecDepth 4000 in
theorem e_b_R_goesBy_108 (f_R_bySharesOf : Int32 → M Unit) (f_R_cousinsOf : Int32 → M Unit) (f_R_does : Int32 → M Unit) (f_R_greater : Int32 → Int32 → M Int32) (f_R_isOut : Int32 → M Int32) (f_R_isStruck : Int32 → M Int32) (f_R_livesOn : Int32 → M Unit) (f_R_mightBeSeen : Int32 → M Unit) (f_R_strikesOff : M Int32) (y : Int32) : wf (β := (Int32) ⊕ ((Unit))) L X q_R_goesBy 1 (cs_R_goesBy f_R_bySharesOf f_R_cousinsOf f_R_does f_R_greater f_R_isOut f_R_isStruck f_R_livesOn f_R_mightBeSeen f_R_strikesOff) [1] [2, 56, 58, 85, 87, 106, 108, 135, 137, 164, 213] (fun pc ls st => mC (Nat.beq pc 108) (mN st <| gI ls 1 fun a1 => gD ls 2 <| rt (.inl a1)) (mC (Nat.beq pc 135) (mN st <| gD ls 1 <| gD ls 2 <| rt (.inr ())) (fl))) (fun _ => fl) 156 108 [(112, .ref 207), (0, .int y), (0, dV)] [] = (bn (rd 207 7) fun v1 =>
  (if y < v1 then
    bn (f_R_isOut y) fun v2 =>
    (if v2 = 0 then
      rt (.inl (y + (1 : Int32)))
    else
      bn (f_R_mightBeSeen y) fun _ =>
      rt (.inl (y + (1 : Int32))))
  else
    rt (.inr ()))) := rfl
theorem b_R_goesBy_108 {d : Nat} (hcs : AllS L X d (cs_R_goesBy F_R_bySharesOf F_R_cousinsOf F_R_does F_R_greater F_R_isOut F_R_isStruck F_R_livesOn F_R_mightBeSeen F_R_strikesOff)) {o : Option Value × PH} {Q : ((Int32) ⊕ ((Unit))) → MI → Prop} (qb : ∀ y I, Q (.inl y) I → At L X (d + 1) 244 108 [(112, .ref 207), (0, .int y), (0, dV)] [] I o) (qe135 : ∀ y I, Q (.inr y) I → At L X (d + 1) 244 135 [(112, .ref 207), (0, dV), (0, dV)] [] I o) (y : Int32) (I : MI) (r : (Int32) ⊕ ((Unit))) (I1 : MI) (h : B_R_goesBy_108 y I = some (r, I1)) (hq : Q r I1) : At L X (d + 1) 244 108 [(112, .ref 207), (0, .int y), (0, dV)] [] I o := by
  refine wf_ok z_R_goesBy hcs ?_ ?_ _ _ _ _ _ ⟨rfl, trivial, trivial, trivial⟩ trivial (unm_refl _ _) ((congrFun (e_b_R_goesBy_108 (L := L) (X := X) F_R_bySharesOf F_R_cousinsOf F_R_does F_R_greater F_R_isOut F_R_isStruck F_R_livesOn F_R_mightBeSeen F_R_strikesOff y) I).trans h)
  · intro pc ls st I2 h1 h2 h3 h
    rcases mC_ok h with ⟨hb, h⟩ | ⟨_, h⟩
    · have e := Nat.eq_of_beq_eq_true hb
      subst e
      obtain ⟨hst, h⟩ := mN_ok h
      subst hst
      obtain ⟨a1, n1, h⟩ := gI_ok h
      obtain ⟨n2, h⟩ := gD_ok h
      refine at_leaf (ls2 := [(112, .ref 207), (0, .int a1), (0, dV)]) h3.1 ⟨Or.inr ⟨_, (h3.2 0 rfl).trans rfl⟩, Or.inr n1, Or.inl ⟨rfl, n2⟩, trivial⟩ ?_
      cases h; exact qb _ _ hq
    rcases mC_ok h with ⟨hb, h⟩ | ⟨_, h⟩
    · have e := Nat.eq_of_beq_eq_true hb
      subst e
      obtain ⟨hst, h⟩ := mN_ok h
      subst hst
      obtain ⟨n1, h⟩ := gD_ok h
      obtain ⟨n2, h⟩ := gD_ok h
      refine at_leaf (ls2 := [(112, .ref 207), (0, dV), (0, dV)]) h3.1 ⟨Or.inr ⟨_, (h3.2 0 rfl).trans rfl⟩, Or.inl ⟨rfl, n1⟩, Or.inl ⟨rfl, n2⟩, trivial⟩ ?_
      cases h; exact qe135 _ _ hq
    cases h
  · intro v I2 _ h
    cases h
def B_R_goesBy_137 (y : Int32) : M ((Int32) ⊕ ((Unit))) :=
  bn (rd 207 7) fun v1 =>
  (if y < v1 then
    bn (F_R_isOut y) fun v2 =>
    (if v2 = 0 then
      rt (.inl (y + (1 : Int32)))
    else
      bn (F_R_livesOn y) fun _ =>
      rt (.inl (y + (1 : Int32))))
  else
    rt (.inr ()))
set_option maxRecDepth 4000 in
theorem e_b_R_goesBy_137 (f_R_bySharesOf : Int32 → M Unit) (f_R_cousinsOf : Int32 → M Unit) (f_R_does : Int32 → M Unit) (f_R_greater : Int32 → Int32 → M Int32) (f_R_isOut : Int32 → M Int32) (f_R_isStruck : Int32 → M Int32) (f_R_livesOn : Int32 → M Unit) (f_R_mightBeSeen : Int32 → M Unit) (f_R_strikesOff : M Int32) (y : Int32) : wf (β := (Int32) ⊕ ((Unit))) L X q_R_goesBy 1 (cs_R_goesBy f_R_bySharesOf f_R_cousinsOf f_R_does f_R_greater f_R_isOut f_R_isStruck f_R_livesOn f_R_mightBeSeen f_R_strikesOff) [1] [2, 56, 58, 85, 87, 106, 108, 135, 137, 164, 213] (fun pc ls st => mC (Nat.beq pc 137) (mN st <| gI ls 1 fun a1 => gD ls 2 <| rt (.inl a1)) (mC (Nat.beq pc 164) (mN st <| gD ls 1 <| gD ls 2 <| rt (.inr ())) (fl))) (fun _ => fl) 156 137 [(112, .ref 207), (0, .int y), (0, dV)] [] = (bn (rd 207 7) fun v1 =>
  (if y < v1 then
    bn (f_R_isOut y) fun v2 =>
    (if v2 = 0 then
      rt (.inl (y + (1 : Int32)))
    else
      bn (f_R_livesOn y) fun _ =>
      rt (.inl (y + (1 : Int32))))
  else
    rt (.inr ()))) := rfl
theorem b_R_goesBy_137 {d : Nat} (hcs : AllS L X d (cs_R_goesBy F_R_bySharesOf F_R_cousinsOf F_R_does F_R_greater F_R_isOut F_R_isStruck F_R_livesOn F_R_mightBeSeen F_R_strikesOff)) {o : Option Value × PH} {Q : ((Int32) ⊕ ((Unit))) → MI → Prop} (qb : ∀ y I, Q (.inl y) I → At L X (d + 1) 244 137 [(112, .ref 207), (0, .int y), (0, dV)] [] I o) (qe164 : ∀ y I, Q (.inr y) I → At L X (d + 1) 244 164 [(112, .ref 207), (0, dV), (0, dV)] [] I o) (y : Int32) (I : MI) (r : (Int32) ⊕ ((Unit))) (I1 : MI) (h : B_R_goesBy_137 y I = some (r, I1)) (hq : Q r I1) : At L X (d + 1) 244 137 [(112, .ref 207), (0, .int y), (0, dV)] [] I o := by
  refine wf_ok z_R_goesBy hcs ?_ ?_ _ _ _ _ _ ⟨rfl, trivial, trivial, trivial⟩ trivial (unm_refl _ _) ((congrFun (e_b_R_goesBy_137 (L := L) (X := X) F_R_bySharesOf F_R_cousinsOf F_R_does F_R_greater F_R_isOut F_R_isStruck F_R_livesOn F_R_mightBeSeen F_R_strikesOff y) I).trans h)
  · intro pc ls st I2 h1 h2 h3 h
    rcases mC_ok h with ⟨hb, h⟩ | ⟨_, h⟩
    · have e := Nat.eq_of_beq_eq_true hb
      subst e
      obtain ⟨hst, h⟩ := mN_ok h
      subst hst
      obtain ⟨a1, n1, h⟩ := gI_ok h
      obtain ⟨n2, h⟩ := gD_ok h
      refine at_leaf (ls2 := [(112, .ref 207), (0, .int a1), (0, dV)]) h3.1 ⟨Or.inr ⟨_, (h3.2 0 rfl).trans rfl⟩, Or.inr n1, Or.inl ⟨rfl, n2⟩, trivial⟩ ?_
      cases h; exact qb _ _ hq
    rcases mC_ok h with ⟨hb, h⟩ | ⟨_, h⟩
    · have e := Nat.eq_of_beq_eq_true hb
      subst e
      obtain ⟨hst, h⟩ := mN_ok h
      subst hst
      obtain ⟨n1, h⟩ := gD_ok h
      obtain ⟨n2, h⟩ := gD_ok h
      refine at_leaf (ls2 := [(112, .ref 207), (0, dV), (0, dV)]) h3.1 ⟨Or.inr ⟨_, (h3.2 0 rfl).trans rfl⟩, Or.inl ⟨rfl, n1⟩, Or.inl ⟨rfl, n2⟩, trivial⟩ ?_
      cases h; exact qe164 _ _ hq
    cases h
  · intro v I2 _ h
    cases h
def B_R_goesBy_213 (x1 : Int32) (y : Int32) : M ((Int32) ⊕ (Int32)) :=
  bn (rd 207 7) fun v1 =>
  (if y < v1 then
    bn (ld 95 208 ((59 : Int32) + y)) fun v2 =>
    bn (F_R_greater (0 : Int32) (v2 - (2 : Int32))) fun v3 =>
    bn (sr 95 208 ((59 : Int32) + y) v3) fun _ =>
    rt (.inl (y + (1 : Int32)))
  else
    rt (.inr x1))
set_option maxRecDepth 4000 in
theorem e_b_R_goesBy_213 (f_R_bySharesOf : Int32 → M Unit) (f_R_cousinsOf : Int32 → M Unit) (f_R_does : Int32 → M Unit) (f_R_greater : Int32 → Int32 → M Int32) (f_R_isOut : Int32 → M Int32) (f_R_isStruck : Int32 → M Int32) (f_R_livesOn : Int32 → M Unit) (f_R_mightBeSeen : Int32 → M Unit) (f_R_strikesOff : M Int32) (x1 : Int32) (y : Int32) : wf (β := (Int32) ⊕ (Int32)) L X q_R_goesBy 1 (cs_R_goesBy f_R_bySharesOf f_R_cousinsOf f_R_does f_R_greater f_R_isOut f_R_isStruck f_R_livesOn f_R_mightBeSeen f_R_strikesOff) [2] [2, 56, 58, 85, 87, 106, 108, 135, 137, 164, 213] (fun pc ls st => mC (Nat.beq pc 213) (mN st <| gI ls 2 fun a2 => rt (.inl a2)) (fl)) (fun v => match v with | some (_, .int x) => rt (.inr x) | _ => fl) 156 213 [(112, .ref 207), (0, .int x1), (0, .int y)] [] = (bn (rd 207 7) fun v1 =>
  (if y < v1 then
    bn (ld 95 208 ((59 : Int32) + y)) fun v2 =>
    bn (f_R_greater (0 : Int32) (v2 - (2 : Int32))) fun v3 =>
    bn (sr 95 208 ((59 : Int32) + y) v3) fun _ =>
    rt (.inl (y + (1 : Int32)))
  else
    rt (.inr x1))) := rfl
theorem b_R_goesBy_213 {d : Nat} (hcs : AllS L X d (cs_R_goesBy F_R_bySharesOf F_R_cousinsOf F_R_does F_R_greater F_R_isOut F_R_isStruck F_R_livesOn F_R_mightBeSeen F_R_strikesOff)) (x1 : Int32) {o : Option Value × PH} {Q : ((Int32) ⊕ (Int32)) → MI → Prop} (qb : ∀ y I, Q (.inl y) I → At L X (d + 1) 244 213 [(112, .ref 207), (0, .int x1), (0, .int y)] [] I o) (qr : ∀ v I, Q (.inr v) I → o = (some (.int v), HH I)) (y : Int32) (I : MI) (r : (Int32) ⊕ (Int32)) (I1 : MI) (h : B_R_goesBy_213 x1 y I = some (r, I1)) (hq : Q r I1) : At L X (d + 1) 244 213 [(112, .ref 207), (0, .int x1), (0, .int y)] [] I o := by
  refine wf_ok z_R_goesBy hcs ?_ ?_ _ _ _ _ _ ⟨rfl, trivial, trivial, trivial⟩ trivial (unm_refl _ _) ((congrFun (e_b_R_goesBy_213 (L := L) (X := X) F_R_bySharesOf F_R_cousinsOf F_R_does F_R_greater F_R_isOut F_R_isStruck F_R_livesOn F_R_mightBeSeen F_R_strikesOff x1 y) I).trans h)
  · intro pc ls st I2 h1 h2 h3 h
    rcases mC_ok h with ⟨hb, h⟩ | ⟨_, h⟩
    · have e := Nat.eq_of_beq_eq_true hb
      subst e
      obtain ⟨hst, h⟩ := mN_ok h
      subst hst
      obtain ⟨a2, n2, h⟩ := gI_ok h
      refine at_leaf (ls2 := [(112, .ref 207), (0, .int x1), (0, .int a2)]) h3.1 ⟨Or.inr ⟨_, (h3.2 0 rfl).trans rfl⟩, Or.inr ⟨_, (h3.2 1 rfl).trans rfl⟩, Or.inr n2, trivial⟩ ?_
      cases h; exact qb _ _ hq
    cases h
  · intro v I2 _ h
    split at h
    · cases h; exact qr _ _ hq
    · cases h
def K_R_goesBy_213 (x1 : Int32) (x2 : Int32) : M (Int32) :=
  lp (B_R_goesBy_213 x1) FU x2
theorem s_R_goesBy_213 {d : Nat} (hcs : AllS L X d (cs_R_goesBy F_R_bySharesOf F_R_cousinsOf F_R_does F_R_greater F_R_isOut F_R_isStruck F_R_livesOn F_R_mightBeSeen F_R_strikesOff)) (x1 : Int32) (x2 : Int32) {o : Option Value × PH} {Q : (Int32) → MI → Prop} (q0 : ∀ v I, Q v I → o = (some (.int v), HH I)) (I : MI) (r : Int32) (I1 : MI) (h : K_R_goesBy_213 x1 x2 I = some (r, I1)) (hq : Q r I1) : At L X (d + 1) 244 213 [(112, .ref 207), (0, .int x1), (0, .int x2)] [] I o := by
  unfold K_R_goesBy_213 at h
  have w0 := fun w => at_lp (body := B_R_goesBy_213 x1) (P := (fun (y : Int32) I => At L X (d + 1) 244 213 [(112, .ref 207), (0, .int x1), (0, .int y)] [] I o)) (Q := (fun (e : Int32) I => Q e I)) w FU x2 I r I1 h hq
  refine w0 ?_
  intro y I r I1 h hq
  exact b_R_goesBy_213 hcs x1 (Q := SQ (fun (y : Int32) I => At L X (d + 1) 244 213 [(112, .ref 207), (0, .int x1), (0, .int y)] [] I o) (fun (e : Int32) I => Q e I)) (fun _ _ w => w) q0 y I r I1 h hq
def K_R_goesBy_164 : M (Int32) :=
  bn (F_R_strikesOff) fun v1 =>
  bn (ld 95 208 (1 : Int32)) fun v2 =>
  dvI (24 : Int32) <|
  bn (sr 95 208 (1 : Int32) ((v2 + (1 : Int32)) - (v2 + (1 : Int32)) / (24 : Int32) * (24 : Int32))) fun _ =>
  bn (ld 95 208 (1 : Int32)) fun v3 =>
  (if 0 < v3 then
    rt v1
  else
    bn (ld 95 208 (0 : Int32)) fun v4 =>
    bn (sr 95 208 (0 : Int32) (v4 + (1 : Int32))) fun _ =>
    K_R_goesBy_213 v1 (0 : Int32))
set_option maxRecDepth 4000 in
theorem e_s_R_goesBy_164 (f_R_bySharesOf : Int32 → M Unit) (f_R_cousinsOf : Int32 → M Unit) (f_R_does : Int32 → M Unit) (f_R_greater : Int32 → Int32 → M Int32) (f_R_isOut : Int32 → M Int32) (f_R_isStruck : Int32 → M Int32) (f_R_livesOn : Int32 → M Unit) (f_R_mightBeSeen : Int32 → M Unit) (f_R_strikesOff : M Int32) (k_213 : Int32 → Int32 → M (Int32)) : wf (β := Int32) L X q_R_goesBy 1 (cs_R_goesBy f_R_bySharesOf f_R_cousinsOf f_R_does f_R_greater f_R_isOut f_R_isStruck f_R_livesOn f_R_mightBeSeen f_R_strikesOff) [1, 2] [2, 56, 58, 85, 87, 106, 108, 135, 137, 164, 213] (fun pc ls st => mC (Nat.beq pc 213) (mN st <| gI ls 1 fun a1 => gI ls 2 fun a2 => k_213 a1 a2) (fl)) (fun v => match v with | some (_, .int x) => rt x | _ => fl) 156 164 [(112, .ref 207), (0, dV), (0, dV)] [] = (bn (f_R_strikesOff) fun v1 =>
  bn (ld 95 208 (1 : Int32)) fun v2 =>
  dvI (24 : Int32) <|
  bn (sr 95 208 (1 : Int32) ((v2 + (1 : Int32)) - (v2 + (1 : Int32)) / (24 : Int32) * (24 : Int32))) fun _ =>
  bn (ld 95 208 (1 : Int32)) fun v3 =>
  (if 0 < v3 then
    rt v1
  else
    bn (ld 95 208 (0 : Int32)) fun v4 =>
    bn (sr 95 208 (0 : Int32) (v4 + (1 : Int32))) fun _ =>
    k_213 v1 (0 : Int32))) := rfl
theorem s_R_goesBy_164 {d : Nat} (hcs : AllS L X d (cs_R_goesBy F_R_bySharesOf F_R_cousinsOf F_R_does F_R_greater F_R_isOut F_R_isStruck F_R_livesOn F_R_mightBeSeen F_R_strikesOff)) {o : Option Value × PH} {Q : (Int32) → MI → Prop} (q0 : ∀ v I, Q v I → o = (some (.int v), HH I)) (I : MI) (r : Int32) (I1 : MI) (h : K_R_goesBy_164 I = some (r, I1)) (hq : Q r I1) : At L X (d + 1) 244 164 [(112, .ref 207), (0, dV), (0, dV)] [] I o := by
  refine wf_ok z_R_goesBy hcs ?_ ?_ _ _ _ _ _ ⟨rfl, trivial, trivial, trivial⟩ trivial (unm_refl _ _) ((congrFun (e_s_R_goesBy_164 (L := L) (X := X) F_R_bySharesOf F_R_cousinsOf F_R_does F_R_greater F_R_isOut F_R_isStruck F_R_livesOn F_R_mightBeSeen F_R_strikesOff K_R_goesBy_213) I).trans h)
  · intro pc ls st I2 h1 h2 h3 h
    rcases mC_ok h with ⟨hb, h⟩ | ⟨_, h⟩
    · have e := Nat.eq_of_beq_eq_true hb
      subst e
      obtain ⟨hst, h⟩ := mN_ok h
      subst hst
      obtain ⟨a1, n1, h⟩ := gI_ok h
      obtain ⟨a2, n2, h⟩ := gI_ok h
      refine at_leaf (ls2 := [(112, .ref 207), (0, .int a1), (0, .int a2)]) h3.1 ⟨Or.inr ⟨_, (h3.2 0 rfl).trans rfl⟩, Or.inr n1, Or.inr n2, trivial⟩ ?_
      exact s_R_goesBy_213 hcs a1 a2 q0 _ _ _ h hq
    cases h
  · intro v I2 _ h
    split at h
    · cases h; exact q0 _ _ hq
    · cases h
def K_R_goesBy_137 (x1 : Int32) : M (Int32) :=
  bn (lp (B_R_goesBy_137) FU x1) fun e => K_R_goesBy_164
theorem s_R_goesBy_137 {d : Nat} (hcs : AllS L X d (cs_R_goesBy F_R_bySharesOf F_R_cousinsOf F_R_does F_R_greater F_R_isOut F_R_isStruck F_R_livesOn F_R_mightBeSeen F_R_strikesOff)) (x1 : Int32) {o : Option Value × PH} {Q : (Int32) → MI → Prop} (q0 : ∀ v I, Q v I → o = (some (.int v), HH I)) (I : MI) (r : Int32) (I1 : MI) (h : K_R_goesBy_137 x1 I = some (r, I1)) (hq : Q r I1) : At L X (d + 1) 244 137 [(112, .ref 207), (0, .int x1), (0, dV)] [] I o := by
  unfold K_R_goesBy_137 at h
  obtain ⟨e, I2, h1, h2⟩ := bn_some h
  have w0 := fun w => at_lp (body := B_R_goesBy_137) (P := (fun (y : Int32) I => At L X (d + 1) 244 137 [(112, .ref 207), (0, .int y), (0, dV)] [] I o)) (Q := (fun (e : (Unit)) I => (K_R_goesBy_164) I = some (r, I1))) w FU x1 I e I2 h1 h2
  refine w0 ?_
  intro y I r2 I3 h hq2
  exact b_R_goesBy_137 hcs (Q := SQ (fun (y : Int32) I => At L X (d + 1) 244 137 [(112, .ref 207), (0, .int y), (0, dV)] [] I o) (fun (e : (Unit)) I => (K_R_goesBy_164) I = some (r, I1))) (fun _ _ w => w) (fun y I w => s_R_goesBy_164 hcs q0 _ _ _ w hq) y I r2 I3 h hq2
def K_R_goesBy_135 : M (Int32) :=
  K_R_goesBy_137 (0 : Int32)
set_option maxRecDepth 4000 in
theorem e_s_R_goesBy_135 (f_R_bySharesOf : Int32 → M Unit) (f_R_cousinsOf : Int32 → M Unit) (f_R_does : Int32 → M Unit) (f_R_greater : Int32 → Int32 → M Int32) (f_R_isOut : Int32 → M Int32) (f_R_isStruck : Int32 → M Int32) (f_R_livesOn : Int32 → M Unit) (f_R_mightBeSeen : Int32 → M Unit) (f_R_strikesOff : M Int32) (k_137 : Int32 → M (Int32)) : wf (β := Int32) L X q_R_goesBy 1 (cs_R_goesBy f_R_bySharesOf f_R_cousinsOf f_R_does f_R_greater f_R_isOut f_R_isStruck f_R_livesOn f_R_mightBeSeen f_R_strikesOff) [1] [2, 56, 58, 85, 87, 106, 108, 135, 137, 164, 213] (fun pc ls st => mC (Nat.beq pc 137) (mN st <| gI ls 1 fun a1 => gD ls 2 <| k_137 a1) (fl)) (fun v => match v with | some (_, .int x) => rt x | _ => fl) 156 135 [(112, .ref 207), (0, dV), (0, dV)] [] = (k_137 (0 : Int32)) := rfl
theorem s_R_goesBy_135 {d : Nat} (hcs : AllS L X d (cs_R_goesBy F_R_bySharesOf F_R_cousinsOf F_R_does F_R_greater F_R_isOut F_R_isStruck F_R_livesOn F_R_mightBeSeen F_R_strikesOff)) {o : Option Value × PH} {Q : (Int32) → MI → Prop} (q0 : ∀ v I, Q v I → o = (some (.int v), HH I)) (I : MI) (r : Int32) (I1 : MI) (h : K_R_goesBy_135 I = some (r, I1)) (hq : Q r I1) : At L X (d + 1) 244 135 [(112, .ref 207), (0, dV), (0, dV)] [] I o := by
  refine wf_ok z_R_goesBy hcs ?_ ?_ _ _ _ _ _ ⟨rfl, trivial, trivial, trivial⟩ trivial (unm_refl _ _) ((congrFun (e_s_R_goesBy_135 (L := L) (X := X) F_R_bySharesOf F_R_cousinsOf F_R_does F_R_greater F_R_isOut F_R_isStruck F_R_livesOn F_R_mightBeSeen F_R_strikesOff K_R_goesBy_137) I).trans h)
  · intro pc ls st I2 h1 h2 h3 h
    rcases mC_ok h with ⟨hb, h⟩ | ⟨_, h⟩
    · have e := Nat.eq_of_beq_eq_true hb
      subst e
      obtain ⟨hst, h⟩ := mN_ok h
      subst hst
      obtain ⟨a1, n1, h⟩ := gI_ok h
      obtain ⟨n2, h⟩ := gD_ok h
      refine at_leaf (ls2 := [(112, .ref 207), (0, .int a1), (0, dV)]) h3.1 ⟨Or.inr ⟨_, (h3.2 0 rfl).trans rfl⟩, Or.inr n1, Or.inl ⟨rfl, n2⟩, trivial⟩ ?_
      exact s_R_goesBy_137 hcs a1 q0 _ _ _ h hq
    cases h
  · intro v I2 _ h
    split at h
    · cases h; exact q0 _ _ hq
    · cases h
def K_R_goesBy_108 (x1 : Int32) : M (Int32) :=
  bn (lp (B_R_goesBy_108) FU x1) fun e => K_R_goesBy_135
theorem s_R_goesBy_108 {d : Nat} (hcs : AllS L X d (cs_R_goesBy F_R_bySharesOf F_R_cousinsOf F_R_does F_R_greater F_R_isOut F_R_isStruck F_R_livesOn F_R_mightBeSeen F_R_strikesOff)) (x1 : Int32) {o : Option Value × PH} {Q : (Int32) → MI → Prop} (q0 : ∀ v I, Q v I → o = (some (.int v), HH I)) (I : MI) (r : Int32) (I1 : MI) (h : K_R_goesBy_108 x1 I = some (r, I1)) (hq : Q r I1) : At L X (d + 1) 244 108 [(112, .ref 207), (0, .int x1), (0, dV)] [] I o := by
  unfold K_R_goesBy_108 at h
  obtain ⟨e, I2, h1, h2⟩ := bn_some h
  have w0 := fun w => at_lp (body := B_R_goesBy_108) (P := (fun (y : Int32) I => At L X (d + 1) 244 108 [(112, .ref 207), (0, .int y), (0, dV)] [] I o)) (Q := (fun (e : (Unit)) I => (K_R_goesBy_135) I = some (r, I1))) w FU x1 I e I2 h1 h2
  refine w0 ?_
  intro y I r2 I3 h hq2
  exact b_R_goesBy_108 hcs (Q := SQ (fun (y : Int32) I => At L X (d + 1) 244 108 [(112, .ref 207), (0, .int y), (0, dV)] [] I o) (fun (e : (Unit)) I => (K_R_goesBy_135) I = some (r, I1))) (fun _ _ w => w) (fun y I w => s_R_goesBy_135 hcs q0 _ _ _ w hq) y I r2 I3 h hq2
def K_R_goesBy_106 : M (Int32) :=
  K_R_goesBy_108 (0 : Int32)
set_option maxRecDepth 4000 in
theorem e_s_R_goesBy_106 (f_R_bySharesOf : Int32 → M Unit) (f_R_cousinsOf : Int32 → M Unit) (f_R_does : Int32 → M Unit) (f_R_greater : Int32 → Int32 → M Int32) (f_R_isOut : Int32 → M Int32) (f_R_isStruck : Int32 → M Int32) (f_R_livesOn : Int32 → M Unit) (f_R_mightBeSeen : Int32 → M Unit) (f_R_strikesOff : M Int32) (k_108 : Int32 → M (Int32)) : wf (β := Int32) L X q_R_goesBy 1 (cs_R_goesBy f_R_bySharesOf f_R_cousinsOf f_R_does f_R_greater f_R_isOut f_R_isStruck f_R_livesOn f_R_mightBeSeen f_R_strikesOff) [1] [2, 56, 58, 85, 87, 106, 108, 135, 137, 164, 213] (fun pc ls st => mC (Nat.beq pc 108) (mN st <| gI ls 1 fun a1 => gD ls 2 <| k_108 a1) (fl)) (fun v => match v with | some (_, .int x) => rt x | _ => fl) 156 106 [(112, .ref 207), (0, dV), (0, dV)] [] = (k_108 (0 : Int32)) := rfl
theorem s_R_goesBy_106 {d : Nat} (hcs : AllS L X d (cs_R_goesBy F_R_bySharesOf F_R_cousinsOf F_R_does F_R_greater F_R_isOut F_R_isStruck F_R_livesOn F_R_mightBeSeen F_R_strikesOff)) {o : Option Value × PH} {Q : (Int32) → MI → Prop} (q0 : ∀ v I, Q v I → o = (some (.int v), HH I)) (I : MI) (r : Int32) (I1 : MI) (h : K_R_goesBy_106 I = some (r, I1)) (hq : Q r I1) : At L X (d + 1) 244 106 [(112, .ref 207), (0, dV), (0, dV)] [] I o := by
  refine wf_ok z_R_goesBy hcs ?_ ?_ _ _ _ _ _ ⟨rfl, trivial, trivial, trivial⟩ trivial (unm_refl _ _) ((congrFun (e_s_R_goesBy_106 (L := L) (X := X) F_R_bySharesOf F_R_cousinsOf F_R_does F_R_greater F_R_isOut F_R_isStruck F_R_livesOn F_R_mightBeSeen F_R_strikesOff K_R_goesBy_108) I).trans h)
  · intro pc ls st I2 h1 h2 h3 h
    rcases mC_ok h with ⟨hb, h⟩ | ⟨_, h⟩
    · have e := Nat.eq_of_beq_eq_true hb
      subst e
      obtain ⟨hst, h⟩ := mN_ok h
      subst hst
      obtain ⟨a1, n1, h⟩ := gI_ok h
      obtain ⟨n2, h⟩ := gD_ok h
      refine at_leaf (ls2 := [(112, .ref 207), (0, .int a1), (0, dV)]) h3.1 ⟨Or.inr ⟨_, (h3.2 0 rfl).trans rfl⟩, Or.inr n1, Or.inl ⟨rfl, n2⟩, trivial⟩ ?_
      exact s_R_goesBy_108 hcs a1 q0 _ _ _ h hq
    cases h
  · intro v I2 _ h
    split at h
    · cases h; exact q0 _ _ hq
    · cases h
def K_R_goesBy_87 (x1 : Int32) : M (Int32) :=
  bn (lp (B_R_goesBy_87) FU x1) fun e => K_R_goesBy_106
theorem s_R_goesBy_87 {d : Nat} (hcs : AllS L X d (cs_R_goesBy F_R_bySharesOf F_R_cousinsOf F_R_does F_R_greater F_R_isOut F_R_isStruck F_R_livesOn F_R_mightBeSeen F_R_strikesOff)) (x1 : Int32) {o : Option Value × PH} {Q : (Int32) → MI → Prop} (q0 : ∀ v I, Q v I → o = (some (.int v), HH I)) (I : MI) (r : Int32) (I1 : MI) (h : K_R_goesBy_87 x1 I = some (r, I1)) (hq : Q r I1) : At L X (d + 1) 244 87 [(112, .ref 207), (0, .int x1), (0, dV)] [] I o := by
  unfold K_R_goesBy_87 at h
  obtain ⟨e, I2, h1, h2⟩ := bn_some h
  have w0 := fun w => at_lp (body := B_R_goesBy_87) (P := (fun (y : Int32) I => At L X (d + 1) 244 87 [(112, .ref 207), (0, .int y), (0, dV)] [] I o)) (Q := (fun (e : (Unit)) I => (K_R_goesBy_106) I = some (r, I1))) w FU x1 I e I2 h1 h2
  refine w0 ?_
  intro y I r2 I3 h hq2
  exact b_R_goesBy_87 hcs (Q := SQ (fun (y : Int32) I => At L X (d + 1) 244 87 [(112, .ref 207), (0, .int y), (0, dV)] [] I o) (fun (e : (Unit)) I => (K_R_goesBy_106) I = some (r, I1))) (fun _ _ w => w) (fun y I w => s_R_goesBy_106 hcs q0 _ _ _ w hq) y I r2 I3 h hq2
def K_R_goesBy_85 : M (Int32) :=
  K_R_goesBy_87 (0 : Int32)
set_option maxRecDepth 4000 in
theorem e_s_R_goesBy_85 (f_R_bySharesOf : Int32 → M Unit) (f_R_cousinsOf : Int32 → M Unit) (f_R_does : Int32 → M Unit) (f_R_greater : Int32 → Int32 → M Int32) (f_R_isOut : Int32 → M Int32) (f_R_isStruck : Int32 → M Int32) (f_R_livesOn : Int32 → M Unit) (f_R_mightBeSeen : Int32 → M Unit) (f_R_strikesOff : M Int32) (k_87 : Int32 → M (Int32)) : wf (β := Int32) L X q_R_goesBy 1 (cs_R_goesBy f_R_bySharesOf f_R_cousinsOf f_R_does f_R_greater f_R_isOut f_R_isStruck f_R_livesOn f_R_mightBeSeen f_R_strikesOff) [1] [2, 56, 58, 85, 87, 106, 108, 135, 137, 164, 213] (fun pc ls st => mC (Nat.beq pc 87) (mN st <| gI ls 1 fun a1 => gD ls 2 <| k_87 a1) (fl)) (fun v => match v with | some (_, .int x) => rt x | _ => fl) 156 85 [(112, .ref 207), (0, dV), (0, dV)] [] = (k_87 (0 : Int32)) := rfl
theorem s_R_goesBy_85 {d : Nat} (hcs : AllS L X d (cs_R_goesBy F_R_bySharesOf F_R_cousinsOf F_R_does F_R_greater F_R_isOut F_R_isStruck F_R_livesOn F_R_mightBeSeen F_R_strikesOff)) {o : Option Value × PH} {Q : (Int32) → MI → Prop} (q0 : ∀ v I, Q v I → o = (some (.int v), HH I)) (I : MI) (r : Int32) (I1 : MI) (h : K_R_goesBy_85 I = some (r, I1)) (hq : Q r I1) : At L X (d + 1) 244 85 [(112, .ref 207), (0, dV), (0, dV)] [] I o := by
  refine wf_ok z_R_goesBy hcs ?_ ?_ _ _ _ _ _ ⟨rfl, trivial, trivial, trivial⟩ trivial (unm_refl _ _) ((congrFun (e_s_R_goesBy_85 (L := L) (X := X) F_R_bySharesOf F_R_cousinsOf F_R_does F_R_greater F_R_isOut F_R_isStruck F_R_livesOn F_R_mightBeSeen F_R_strikesOff K_R_goesBy_87) I).trans h)
  · intro pc ls st I2 h1 h2 h3 h
    rcases mC_ok h with ⟨hb, h⟩ | ⟨_, h⟩
    · have e := Nat.eq_of_beq_eq_true hb
      subst e
      obtain ⟨hst, h⟩ := mN_ok h
      subst hst
      obtain ⟨a1, n1, h⟩ := gI_ok h
      obtain ⟨n2, h⟩ := gD_ok h
      refine at_leaf (ls2 := [(112, .ref 207), (0, .int a1), (0, dV)]) h3.1 ⟨Or.inr ⟨_, (h3.2 0 rfl).trans rfl⟩, Or.inr n1, Or.inl ⟨rfl, n2⟩, trivial⟩ ?_
      exact s_R_goesBy_87 hcs a1 q0 _ _ _ h hq
    cases h
  · intro v I2 _ h
    split at h
    · cases h; exact q0 _ _ hq
    · cases h
def K_R_goesBy_58 (x1 : Int32) : M (Int32) :=
  bn (lp (B_R_goesBy_58) FU x1) fun e => K_R_goesBy_85
theorem s_R_goesBy_58 {d : Nat} (hcs : AllS L X d (cs_R_goesBy F_R_bySharesOf F_R_cousinsOf F_R_does F_R_greater F_R_isOut F_R_isStruck F_R_livesOn F_R_mightBeSeen F_R_strikesOff)) (x1 : Int32) {o : Option Value × PH} {Q : (Int32) → MI → Prop} (q0 : ∀ v I, Q v I → o = (some (.int v), HH I)) (I : MI) (r : Int32) (I1 : MI) (h : K_R_goesBy_58 x1 I = some (r, I1)) (hq : Q r I1) : At L X (d + 1) 244 58 [(112, .ref 207), (0, .int x1), (0, dV)] [] I o := by
  unfold K_R_goesBy_58 at h
  obtain ⟨e, I2, h1, h2⟩ := bn_some h
  have w0 := fun w => at_lp (body := B_R_goesBy_58) (P := (fun (y : Int32) I => At L X (d + 1) 244 58 [(112, .ref 207), (0, .int y), (0, dV)] [] I o)) (Q := (fun (e : (Unit)) I => (K_R_goesBy_85) I = some (r, I1))) w FU x1 I e I2 h1 h2
  refine w0 ?_
  intro y I r2 I3 h hq2
  exact b_R_goesBy_58 hcs (Q := SQ (fun (y : Int32) I => At L X (d + 1) 244 58 [(112, .ref 207), (0, .int y), (0, dV)] [] I o) (fun (e : (Unit)) I => (K_R_goesBy_85) I = some (r, I1))) (fun _ _ w => w) (fun y I w => s_R_goesBy_85 hcs q0 _ _ _ w hq) y I r2 I3 h hq2
def K_R_goesBy_56 : M (Int32) :=
  K_R_goesBy_58 (0 : Int32)
set_option maxRecDepth 4000 in
theorem e_s_R_goesBy_56 (f_R_bySharesOf : Int32 → M Unit) (f_R_cousinsOf : Int32 → M Unit) (f_R_does : Int32 → M Unit) (f_R_greater : Int32 → Int32 → M Int32) (f_R_isOut : Int32 → M Int32) (f_R_isStruck : Int32 → M Int32) (f_R_livesOn : Int32 → M Unit) (f_R_mightBeSeen : Int32 → M Unit) (f_R_strikesOff : M Int32) (k_58 : Int32 → M (Int32)) : wf (β := Int32) L X q_R_goesBy 1 (cs_R_goesBy f_R_bySharesOf f_R_cousinsOf f_R_does f_R_greater f_R_isOut f_R_isStruck f_R_livesOn f_R_mightBeSeen f_R_strikesOff) [1] [2, 56, 58, 85, 87, 106, 108, 135, 137, 164, 213] (fun pc ls st => mC (Nat.beq pc 58) (mN st <| gI ls 1 fun a1 => gD ls 2 <| k_58 a1) (fl)) (fun v => match v with | some (_, .int x) => rt x | _ => fl) 156 56 [(112, .ref 207), (0, dV), (0, dV)] [] = (k_58 (0 : Int32)) := rfl
theorem s_R_goesBy_56 {d : Nat} (hcs : AllS L X d (cs_R_goesBy F_R_bySharesOf F_R_cousinsOf F_R_does F_R_greater F_R_isOut F_R_isStruck F_R_livesOn F_R_mightBeSeen F_R_strikesOff)) {o : Option Value × PH} {Q : (Int32) → MI → Prop} (q0 : ∀ v I, Q v I → o = (some (.int v), HH I)) (I : MI) (r : Int32) (I1 : MI) (h : K_R_goesBy_56 I = some (r, I1)) (hq : Q r I1) : At L X (d + 1) 244 56 [(112, .ref 207), (0, dV), (0, dV)] [] I o := by
  refine wf_ok z_R_goesBy hcs ?_ ?_ _ _ _ _ _ ⟨rfl, trivial, trivial, trivial⟩ trivial (unm_refl _ _) ((congrFun (e_s_R_goesBy_56 (L := L) (X := X) F_R_bySharesOf F_R_cousinsOf F_R_does F_R_greater F_R_isOut F_R_isStruck F_R_livesOn F_R_mightBeSeen F_R_strikesOff K_R_goesBy_58) I).trans h)
  · intro pc ls st I2 h1 h2 h3 h
    rcases mC_ok h with ⟨hb, h⟩ | ⟨_, h⟩
    · have e := Nat.eq_of_beq_eq_true hb
      subst e
      obtain ⟨hst, h⟩ := mN_ok h
      subst hst
      obtain ⟨a1, n1, h⟩ := gI_ok h
      obtain ⟨n2, h⟩ := gD_ok h
      refine at_leaf (ls2 := [(112, .ref 207), (0, .int a1), (0, dV)]) h3.1 ⟨Or.inr ⟨_, (h3.2 0 rfl).trans rfl⟩, Or.inr n1, Or.inl ⟨rfl, n2⟩, trivial⟩ ?_
      exact s_R_goesBy_58 hcs a1 q0 _ _ _ h hq
    cases h
  · intro v I2 _ h
    split at h
    · cases h; exact q0 _ _ hq
    · cases h
def K_R_goesBy_2 (x1 : Int32) : M (Int32) :=
  bn (lp (B_R_goesBy_2) FU x1) fun e => K_R_goesBy_56
theorem s_R_goesBy_2 {d : Nat} (hcs : AllS L X d (cs_R_goesBy F_R_bySharesOf F_R_cousinsOf F_R_does F_R_greater F_R_isOut F_R_isStruck F_R_livesOn F_R_mightBeSeen F_R_strikesOff)) (x1 : Int32) {o : Option Value × PH} {Q : (Int32) → MI → Prop} (q0 : ∀ v I, Q v I → o = (some (.int v), HH I)) (I : MI) (r : Int32) (I1 : MI) (h : K_R_goesBy_2 x1 I = some (r, I1)) (hq : Q r I1) : At L X (d + 1) 244 2 [(112, .ref 207), (0, .int x1), (0, dV)] [] I o := by
  unfold K_R_goesBy_2 at h
  obtain ⟨e, I2, h1, h2⟩ := bn_some h
  have w0 := fun w => at_lp (body := B_R_goesBy_2) (P := (fun (y : Int32) I => At L X (d + 1) 244 2 [(112, .ref 207), (0, .int y), (0, dV)] [] I o)) (Q := (fun (e : (Unit)) I => (K_R_goesBy_56) I = some (r, I1))) w FU x1 I e I2 h1 h2
  refine w0 ?_
  intro y I r2 I3 h hq2
  exact b_R_goesBy_2 hcs (Q := SQ (fun (y : Int32) I => At L X (d + 1) 244 2 [(112, .ref 207), (0, .int y), (0, dV)] [] I o) (fun (e : (Unit)) I => (K_R_goesBy_56) I = some (r, I1))) (fun _ _ w => w) (fun y I w => s_R_goesBy_56 hcs q0 _ _ _ w hq) y I r2 I3 h hq2
def F_R_goesBy : M (Int32) :=
  K_R_goesBy_2 (0 : Int32)
set_option maxRecDepth 4000 in
theorem e_s_R_goesBy_0 (f_R_bySharesOf : Int32 → M Unit) (f_R_cousinsOf : Int32 → M Unit) (f_R_does : Int32 → M Unit) (f_R_greater : Int32 → Int32 → M Int32) (f_R_isOut : Int32 → M Int32) (f_R_isStruck : Int32 → M Int32) (f_R_livesOn : Int32 → M Unit) (f_R_mightBeSeen : Int32 → M Unit) (f_R_strikesOff : M Int32) (k_2 : Int32 → M (Int32)) : wf (β := Int32) L X q_R_goesBy 1 (cs_R_goesBy f_R_bySharesOf f_R_cousinsOf f_R_does f_R_greater f_R_isOut f_R_isStruck f_R_livesOn f_R_mightBeSeen f_R_strikesOff) [1] [2, 56, 58, 85, 87, 106, 108, 135, 137, 164, 213] (fun pc ls st => mC (Nat.beq pc 2) (mN st <| gI ls 1 fun a1 => gD ls 2 <| k_2 a1) (fl)) (fun v => match v with | some (_, .int x) => rt x | _ => fl) 156 0 [(112, .ref 207), (0, dV), (0, dV)] [] = (k_2 (0 : Int32)) := rfl
theorem s_R_goesBy_0 {d : Nat} (hcs : AllS L X d (cs_R_goesBy F_R_bySharesOf F_R_cousinsOf F_R_does F_R_greater F_R_isOut F_R_isStruck F_R_livesOn F_R_mightBeSeen F_R_strikesOff)) {o : Option Value × PH} {Q : (Int32) → MI → Prop} (q0 : ∀ v I, Q v I → o = (some (.int v), HH I)) (I : MI) (r : Int32) (I1 : MI) (h : F_R_goesBy I = some (r, I1)) (hq : Q r I1) : At L X (d + 1) 244 0 [(112, .ref 207), (0, dV), (0, dV)] [] I o := by
  refine wf_ok z_R_goesBy hcs ?_ ?_ _ _ _ _ _ ⟨rfl, trivial, trivial, trivial⟩ trivial (unm_refl _ _) ((congrFun (e_s_R_goesBy_0 (L := L) (X := X) F_R_bySharesOf F_R_cousinsOf F_R_does F_R_greater F_R_isOut F_R_isStruck F_R_livesOn F_R_mightBeSeen F_R_strikesOff K_R_goesBy_2) I).trans h)
  · intro pc ls st I2 h1 h2 h3 h
    rcases mC_ok h with ⟨hb, h⟩ | ⟨_, h⟩
    · have e := Nat.eq_of_beq_eq_true hb
      subst e
      obtain ⟨hst, h⟩ := mN_ok h
      subst hst
      obtain ⟨a1, n1, h⟩ := gI_ok h
      obtain ⟨n2, h⟩ := gD_ok h
      refine at_leaf (ls2 := [(112, .ref 207), (0, .int a1), (0, dV)]) h3.1 ⟨Or.inr ⟨_, (h3.2 0 rfl).trans rfl⟩, Or.inr n1, Or.inl ⟨rfl, n2⟩, trivial⟩ ?_
      exact s_R_goesBy_2 hcs a1 q0 _ _ _ h hq
    cases h
  · intro v I2 _ h
    split at h
    · cases h; exact q0 _ _ hq
    · cases h
theorem w_R_goesBy {d : Nat} (hcs : AllS L X d (cs_R_goesBy F_R_bySharesOf F_R_cousinsOf F_R_does F_R_greater F_R_isOut F_R_isStruck F_R_livesOn F_R_mightBeSeen F_R_strikesOff)) : Snd L X (d + 1) 244 1 (W_R_goesBy F_R_goesBy) := by
  refine ⟨_, z_R_goesBy, rfl, fun β args k I r hty hlen h => ?_⟩
  unfold W_R_goesBy at h
  split at h
  · rename_i t0 a0
    obtain ⟨hb0, h⟩ := mB_ok h
    have e0 := Nat.eq_of_beq_eq_true hb0
    have g0 : okB 112 a0 = true := e0 ▸ hty.1
    have e20 := one_112 g0
    subst e20
    obtain ⟨v, I1, h1, h2⟩ := bn_some h
    refine ⟨gf_obj (c := 12) (by decide) g0, rfl, some (0, .int v), I1, trivial, ?_, h2⟩
    exact s_R_goesBy_0 hcs   (Q := fun w I => w = v ∧ I = I1) (fun w I q => by obtain ⟨rfl, rfl⟩ := q; rfl) I v I1 h1 ⟨rfl, rfl⟩
  · cases h
theorem S_R_goesBy {d : Nat} (hd : 7 ≤ d) : Snd L X d 244 1 (W_R_goesBy F_R_goesBy) := by
  obtain ⟨e, rfl⟩ : ∃ e, d = e + 1 := ⟨d - 1, by omega⟩
  exact w_R_goesBy ⟨S_R_bySharesOf (by omega), S_R_cousinsOf (by omega), S_R_does (by omega), S_R_greater (by omega), S_R_isOut (by omega), S_R_isStruck (by omega), S_R_livesOn (by omega), S_R_mightBeSeen (by omega), S_R_strikesOff (by omega), trivial⟩
end
