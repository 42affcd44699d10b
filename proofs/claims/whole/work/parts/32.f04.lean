/-! methods (written by wip/tools/gen_f.py) -/
section
variable {L : Nat} {X : Nat → Int32}
set_option maxRecDepth 100000 in
theorem z_A_keeps : pT[120]? = some (q_A_keeps, 2, 3, 1, 11) := rfl
def W_A_keeps (F : Int32 → M Int32) : CSem := fun _ args k => match args with
  | [(t0, .ref a0), (_, .int a1)] => mB (Nat.beq t0 111) <| bn (F a1) fun v => k (some (0, .int v))
  | _ => fl
def cs_A_keeps (f_Hours_pass : Nat → M Unit) (f_World_become : Nat → Nat → M Unit) (f_World_isAlias : Nat → Int32 → M Int32) : List (Nat × Nat × CSem) := [(34, 1, W_Hours_pass f_Hours_pass), (28, 2, W_World_become f_World_become), (26, 2, W_World_isAlias f_World_isAlias)]
def B_A_keeps_32 (x1 : Int32) (y : Int32) : M ((Int32) ⊕ (Int32)) :=
  (if (100 : Int32) < y then
    rt (.inr (-1 : Int32))
  else
    bn (ld 18 121 x1) fun v1 =>
    (if v1 = 0 then
      bn (F_Hours_pass 122) fun _ =>
      rt (.inl (y + (1 : Int32)))
    else
      rt (.inr y)))
set_option maxRecDepth 4000 in
theorem e_b_A_keeps_32 (f_Hours_pass : Nat → M Unit) (f_World_become : Nat → Nat → M Unit) (f_World_isAlias : Nat → Int32 → M Int32) (x1 : Int32) (y : Int32) : wf (β := (Int32) ⊕ (Int32)) L X q_A_keeps 1 (cs_A_keeps f_Hours_pass f_World_become f_World_isAlias) [2] [32] (fun pc ls st => mC (Nat.beq pc 32) (mN st <| gI ls 2 fun a2 => rt (.inl a2)) (fl)) (fun v => match v with | some (_, .int x) => rt (.inr x) | _ => fl) 39 32 [(111, .ref 0), (0, .int x1), (0, .int y)] [] = ((if (100 : Int32) < y then
    rt (.inr (-1 : Int32))
  else
    bn (ld 18 121 x1) fun v1 =>
    (if v1 = 0 then
      bn (f_Hours_pass 122) fun _ =>
      rt (.inl (y + (1 : Int32)))
    else
      rt (.inr y)))) := rfl
theorem b_A_keeps_32 {d : Nat} (hcs : AllS L X d (cs_A_keeps F_Hours_pass F_World_become F_World_isAlias)) (x1 : Int32) {o : Option Value × PH} {Q : ((Int32) ⊕ (Int32)) → MI → Prop} (qb : ∀ y I, Q (.inl y) I → At L X (d + 1) 120 32 [(111, .ref 0), (0, .int x1), (0, .int y)] [] I o) (qr : ∀ v I, Q (.inr v) I → o = (some (.int v), HH I)) (y : Int32) (I : MI) (r : (Int32) ⊕ (Int32)) (I1 : MI) (h : B_A_keeps_32 x1 y I = some (r, I1)) (hq : Q r I1) : At L X (d + 1) 120 32 [(111, .ref 0), (0, .int x1), (0, .int y)] [] I o := by
  refine wf_ok z_A_keeps hcs ?_ ?_ _ _ _ _ _ ⟨rfl, trivial, trivial, trivial⟩ trivial (unm_refl _ _) ((congrFun (e_b_A_keeps_32 (L := L) (X := X) F_Hours_pass F_World_become F_World_isAlias x1 y) I).trans h)
  · intro pc ls st I2 h1 h2 h3 h
    rcases mC_ok h with ⟨hb, h⟩ | ⟨_, h⟩
    · have e := Nat.eq_of_beq_eq_true hb
      subst e
      obtain ⟨hst, h⟩ := mN_ok h
      subst hst
      obtain ⟨a2, n2, h⟩ := gI_ok h
      refine at_leaf (ls2 := [(111, .ref 0), (0, .int x1), (0, .int a2)]) h3.1 ⟨Or.inr ⟨_, (h3.2 0 rfl).trans rfl⟩, Or.inr ⟨_, (h3.2 1 rfl).trans rfl⟩, Or.inr n2, trivial⟩ ?_
      cases h; exact qb _ _ hq
    cases h
  · intro v I2 _ h
    split at h
    · cases h; exact qr _ _ hq
    · cases h
def K_A_keeps_32 (x1 : Int32) (x2 : Int32) : M (Int32) :=
  lp (B_A_keeps_32 x1) FU x2
theorem s_A_keeps_32 {d : Nat} (hcs : AllS L X d (cs_A_keeps F_Hours_pass F_World_become F_World_isAlias)) (x1 : Int32) (x2 : Int32) {o : Option Value × PH} {Q : (Int32) → MI → Prop} (q0 : ∀ v I, Q v I → o = (some (.int v), HH I)) (I : MI) (r : Int32) (I1 : MI) (h : K_A_keeps_32 x1 x2 I = some (r, I1)) (hq : Q r I1) : At L X (d + 1) 120 32 [(111, .ref 0), (0, .int x1), (0, .int x2)] [] I o := by
  unfold K_A_keeps_32 at h
  have w0 := fun w => at_lp (body := B_A_keeps_32 x1) (P := (fun (y : Int32) I => At L X (d + 1) 120 32 [(111, .ref 0), (0, .int x1), (0, .int y)] [] I o)) (Q := (fun (e : Int32) I => Q e I)) w FU x2 I r I1 h hq
  refine w0 ?_
  intro y I r I1 h hq
  exact b_A_keeps_32 hcs x1 (Q := SQ (fun (y : Int32) I => At L X (d + 1) 120 32 [(111, .ref 0), (0, .int x1), (0, .int y)] [] I o) (fun (e : Int32) I => Q e I)) (fun _ _ w => w) q0 y I r I1 h hq
def F_A_keeps (x1 : Int32) : M (Int32) :=
  bn (F_World_isAlias 2 x1) fun v1 =>
  (if v1 = 0 then
    rt (-1 : Int32)
  else
    bn (F_World_become 111 2) fun _ =>
    K_A_keeps_32 x1 (0 : Int32))
set_option maxRecDepth 4000 in
theorem e_s_A_keeps_0 (f_Hours_pass : Nat → M Unit) (f_World_become : Nat → Nat → M Unit) (f_World_isAlias : Nat → Int32 → M Int32) (k_32 : Int32 → Int32 → M (Int32)) (x1 : Int32) : wf (β := Int32) L X q_A_keeps 1 (cs_A_keeps f_Hours_pass f_World_become f_World_isAlias) [2] [32] (fun pc ls st => mC (Nat.beq pc 32) (mN st <| gI ls 2 fun a2 => k_32 x1 a2) (fl)) (fun v => match v with | some (_, .int x) => rt x | _ => fl) 39 0 [(111, .ref 0), (0, .int x1), (0, dV)] [] = (bn (f_World_isAlias 2 x1) fun v1 =>
  (if v1 = 0 then
    rt (-1 : Int32)
  else
    bn (f_World_become 111 2) fun _ =>
    k_32 x1 (0 : Int32))) := rfl
theorem s_A_keeps_0 {d : Nat} (hcs : AllS L X d (cs_A_keeps F_Hours_pass F_World_become F_World_isAlias)) (x1 : Int32) {o : Option Value × PH} {Q : (Int32) → MI → Prop} (q0 : ∀ v I, Q v I → o = (some (.int v), HH I)) (I : MI) (r : Int32) (I1 : MI) (h : F_A_keeps x1 I = some (r, I1)) (hq : Q r I1) : At L X (d + 1) 120 0 [(111, .ref 0), (0, .int x1), (0, dV)] [] I o := by
  refine wf_ok z_A_keeps hcs ?_ ?_ _ _ _ _ _ ⟨rfl, trivial, trivial, trivial⟩ trivial (unm_refl _ _) ((congrFun (e_s_A_keeps_0 (L := L) (X := X) F_Hours_pass F_World_become F_World_isAlias K_A_keeps_32 x1) I).trans h)
  · intro pc ls st I2 h1 h2 h3 h
    rcases mC_ok h with ⟨hb, h⟩ | ⟨_, h⟩
    · have e := Nat.eq_of_beq_eq_true hb
      subst e
      obtain ⟨hst, h⟩ := mN_ok h
      subst hst
      obtain ⟨a2, n2, h⟩ := gI_ok h
      refine at_leaf (ls2 := [(111, .ref 0), (0, .int x1), (0, .int a2)]) h3.1 ⟨Or.inr ⟨_, (h3.2 0 rfl).trans rfl⟩, Or.inr ⟨_, (h3.2 1 rfl).trans rfl⟩, Or.inr n2, trivial⟩ ?_
      exact s_A_keeps_32 hcs x1 a2 q0 _ _ _ h hq
    cases h
  · intro v I2 _ h
    split at h
    · cases h; exact q0 _ _ hq
    · cases h
theorem w_A_keeps {d : Nat} (hcs : AllS L X d (cs_A_keeps F_Hours_pass F_World_become F_World_isAlias)) : Snd L X (d + 1) 120 2 (W_A_keeps F_A_keeps) := by
  refine ⟨_, z_A_keeps, rfl, fun β args k I r hty hlen h => ?_⟩
  unfold W_A_keeps at h
  split at h
  · rename_i t0 a0 u1 a1
    obtain ⟨hb0, h⟩ := mB_ok h
    have e0 := Nat.eq_of_beq_eq_true hb0
    have g0 : okB 111 a0 = true := e0 ▸ hty.1
    have e20 := one_111 g0
    subst e20
    obtain ⟨v, I1, h1, h2⟩ := bn_some h
    refine ⟨gf_obj (c := 11) (by decide) g0, rfl, some (0, .int v), I1, trivial, ?_, h2⟩
    exact s_A_keeps_0 hcs a1  (Q := fun w I => w = v ∧ I = I1) (fun w I q => by obtain ⟨rfl, rfl⟩ := q; rfl) I v I1 h1 ⟨rfl, rfl⟩
  · cases h
theorem S_A_keeps {d : Nat} (hd : 8 ≤ d) : Snd L X d 120 2 (W_A_keeps F_A_keeps) := by
  obtain ⟨e, rfl⟩ : ∃ e, d = e + 1 := ⟨d - 1, by omega⟩
  exact w_A_keeps ⟨S_Hours_pass (by omega), S_World_become (by omega), S_World_isAlias (by omega), trivial⟩
set_option maxRecDepth 100000 in
theorem z_Port_besideAny : pT[126]? = some (q_Port_besideAny, 2, 4, 1, 4) := rfl
def W_Port_besideAny (F : Int32 → M Int32) : CSem := fun _ args k => match args with
  | [(t0, .ref a0), (_, .int a1)] => mB (Nat.beq t0 104) <| bn (F a1) fun v => k (some (0, .int v))
  | _ => fl
def cs_Port_besideAny : List (Nat × Nat × CSem) := []
def B_Port_besideAny_4 (x1 : Int32) (y : Int32 × Int32) : M ((Int32 × Int32) ⊕ (Int32)) :=
  (if y.2 < (10 : Int32) then
    (if ((x1 >>> (y.2 &&& 31)) &&& (1 : Int32)) = 0 then
      rt (.inl (y.1, (y.2 + (1 : Int32))))
    else
      bn (ld 10 191 y.2) fun v1 =>
      rt (.inl ((y.1 ||| v1), (y.2 + (1 : Int32)))))
  else
    rt (.inr y.1))
set_option maxRecDepth 4000 in
theorem e_b_Port_besideAny_4 (x1 : Int32) (y : Int32 × Int32) : wf (β := (Int32 × Int32) ⊕ (Int32)) L X q_Port_besideAny 1 cs_Port_besideAny [2, 3] [4] (fun pc ls st => mC (Nat.beq pc 4) (mN st <| gI ls 2 fun a2 => gI ls 3 fun a3 => rt (.inl (a2, a3))) (fl)) (fun v => match v with | some (_, .int x) => rt (.inr x) | _ => fl) 29 4 [(104, .ref 190), (0, .int x1), (0, .int y.1), (0, .int y.2)] [] = ((if y.2 < (10 : Int32) then
    (if ((x1 >>> (y.2 &&& 31)) &&& (1 : Int32)) = 0 then
      rt (.inl (y.1, (y.2 + (1 : Int32))))
    else
      bn (ld 10 191 y.2) fun v1 =>
      rt (.inl ((y.1 ||| v1), (y.2 + (1 : Int32)))))
  else
    rt (.inr y.1))) := rfl
theorem b_Port_besideAny_4 {d : Nat} (hcs : AllS L X d cs_Port_besideAny) (x1 : Int32) {o : Option Value × PH} {Q : ((Int32 × Int32) ⊕ (Int32)) → MI → Prop} (qb : ∀ y I, Q (.inl y) I → At L X (d + 1) 126 4 [(104, .ref 190), (0, .int x1), (0, .int y.1), (0, .int y.2)] [] I o) (qr : ∀ v I, Q (.inr v) I → o = (some (.int v), HH I)) (y : Int32 × Int32) (I : MI) (r : (Int32 × Int32) ⊕ (Int32)) (I1 : MI) (h : B_Port_besideAny_4 x1 y I = some (r, I1)) (hq : Q r I1) : At L X (d + 1) 126 4 [(104, .ref 190), (0, .int x1), (0, .int y.1), (0, .int y.2)] [] I o := by
  refine wf_ok z_Port_besideAny hcs ?_ ?_ _ _ _ _ _ ⟨rfl, trivial, trivial, trivial, trivial⟩ trivial (unm_refl _ _) ((congrFun (e_b_Port_besideAny_4 (L := L) (X := X) x1 y) I).trans h)
  · intro pc ls st I2 h1 h2 h3 h
    rcases mC_ok h with ⟨hb, h⟩ | ⟨_, h⟩
    · have e := Nat.eq_of_beq_eq_true hb
      subst e
      obtain ⟨hst, h⟩ := mN_ok h
      subst hst
      obtain ⟨a2, n2, h⟩ := gI_ok h
      obtain ⟨a3, n3, h⟩ := gI_ok h
      refine at_leaf (ls2 := [(104, .ref 190), (0, .int x1), (0, .int a2), (0, .int a3)]) h3.1 ⟨Or.inr ⟨_, (h3.2 0 rfl).trans rfl⟩, Or.inr ⟨_, (h3.2 1 rfl).trans rfl⟩, Or.inr n2, Or.inr n3, trivial⟩ ?_
      cases h; exact qb _ _ hq
    cases h
  · intro v I2 _ h
    split at h
    · cases h; exact qr _ _ hq
    · cases h
def K_Port_besideAny_4 (x1 : Int32) (x2 : Int32) (x3 : Int32) : M (Int32) :=
  lp (B_Port_besideAny_4 x1) FU (x2, x3)
theorem s_Port_besideAny_4 {d : Nat} (hcs : AllS L X d cs_Port_besideAny) (x1 : Int32) (x2 : Int32) (x3 : Int32) {o : Option Value × PH} {Q : (Int32) → MI → Prop} (q0 : ∀ v I, Q v I → o = (some (.int v), HH I)) (I : MI) (r : Int32) (I1 : MI) (h : K_Port_besideAny_4 x1 x2 x3 I = some (r, I1)) (hq : Q r I1) : At L X (d + 1) 126 4 [(104, .ref 190), (0, .int x1), (0, .int x2), (0, .int x3)] [] I o := by
  unfold K_Port_besideAny_4 at h
  have w0 := fun w => at_lp (body := B_Port_besideAny_4 x1) (P := (fun (y : Int32 × Int32) I => At L X (d + 1) 126 4 [(104, .ref 190), (0, .int x1), (0, .int y.1), (0, .int y.2)] [] I o)) (Q := (fun (e : Int32) I => Q e I)) w FU (x2, x3) I r I1 h hq
  refine w0 ?_
  intro y I r I1 h hq
  exact b_Port_besideAny_4 hcs x1 (Q := SQ (fun (y : Int32 × Int32) I => At L X (d + 1) 126 4 [(104, .ref 190), (0, .int x1), (0, .int y.1), (0, .int y.2)] [] I o) (fun (e : Int32) I => Q e I)) (fun _ _ w => w) q0 y I r I1 h hq
def F_Port_besideAny (x1 : Int32) : M (Int32) :=
  K_Port_besideAny_4 x1 (0 : Int32) (0 : Int32)
set_option maxRecDepth 4000 in
theorem e_s_Port_besideAny_0 (k_4 : Int32 → Int32 → Int32 → M (Int32)) (x1 : Int32) : wf (β := Int32) L X q_Port_besideAny 1 cs_Port_besideAny [2, 3] [4] (fun pc ls st => mC (Nat.beq pc 4) (mN st <| gI ls 2 fun a2 => gI ls 3 fun a3 => k_4 x1 a2 a3) (fl)) (fun v => match v with | some (_, .int x) => rt x | _ => fl) 29 0 [(104, .ref 190), (0, .int x1), (0, dV), (0, dV)] [] = (k_4 x1 (0 : Int32) (0 : Int32)) := rfl
theorem s_Port_besideAny_0 {d : Nat} (hcs : AllS L X d cs_Port_besideAny) (x1 : Int32) {o : Option Value × PH} {Q : (Int32) → MI → Prop} (q0 : ∀ v I, Q v I → o = (some (.int v), HH I)) (I : MI) (r : Int32) (I1 : MI) (h : F_Port_besideAny x1 I = some (r, I1)) (hq : Q r I1) : At L X (d + 1) 126 0 [(104, .ref 190), (0, .int x1), (0, dV), (0, dV)] [] I o := by
  refine wf_ok z_Port_besideAny hcs ?_ ?_ _ _ _ _ _ ⟨rfl, trivial, trivial, trivial, trivial⟩ trivial (unm_refl _ _) ((congrFun (e_s_Port_besideAny_0 (L := L) (X := X) K_Port_besideAny_4 x1) I).trans h)
  · intro pc ls st I2 h1 h2 h3 h
    rcases mC_ok h with ⟨hb, h⟩ | ⟨_, h⟩
    · have e := Nat.eq_of_beq_eq_true hb
      subst e
      obtain ⟨hst, h⟩ := mN_ok h
      subst hst
      obtain ⟨a2, n2, h⟩ := gI_ok h
      obtain ⟨a3, n3, h⟩ := gI_ok h
      refine at_leaf (ls2 := [(104, .ref 190), (0, .int x1), (0, .int a2), (0, .int a3)]) h3.1 ⟨Or.inr ⟨_, (h3.2 0 rfl).trans rfl⟩, Or.inr ⟨_, (h3.2 1 rfl).trans rfl⟩, Or.inr n2, Or.inr n3, trivial⟩ ?_
      exact s_Port_besideAny_4 hcs x1 a2 a3 q0 _ _ _ h hq
    cases h
  · intro v I2 _ h
    split at h
    · cases h; exact q0 _ _ hq
    · cases h
theorem w_Port_besideAny {d : Nat} (hcs : AllS L X d cs_Port_besideAny) : Snd L X (d + 1) 126 2 (W_Port_besideAny F_Port_besideAny) := by
  refine ⟨_, z_Port_besideAny, rfl, fun β args k I r hty hlen h => ?_⟩
  unfold W_Port_besideAny at h
  split at h
  · rename_i t0 a0 u1 a1
    obtain ⟨hb0, h⟩ := mB_ok h
    have e0 := Nat.eq_of_beq_eq_true hb0
    have g0 : okB 104 a0 = true := e0 ▸ hty.1
    have e20 := one_104 g0
    subst e20
    obtain ⟨v, I1, h1, h2⟩ := bn_some h
    refine ⟨gf_obj (c := 4) (by decide) g0, rfl, some (0, .int v), I1, trivial, ?_, h2⟩
    exact s_Port_besideAny_0 hcs a1  (Q := fun w I => w = v ∧ I = I1) (fun w I q => by obtain ⟨rfl, rfl⟩ := q; rfl) I v I1 h1 ⟨rfl, rfl⟩
  · cases h
theorem S_Port_besideAny {d : Nat} (hd : 1 ≤ d) : Snd L X d 126 2 (W_Port_besideAny F_Port_besideAny) := by
  obtain ⟨e, rfl⟩ : ∃ e, d = e + 1 := ⟨d - 1, by omega⟩
  exact w_Port_besideAny trivial
set_option maxRecDepth 100000 in
theorem z_Port_drawMap : pT[115]? = some (q_Port_drawMap, 1, 5, 0, 4) := rfl
def W_Port_drawMap (F : M Unit) : CSem := fun _ args k => match args with
  | [(t0, .ref a0)] => mB (Nat.beq t0 104) <| bn (F) fun _ => k none
  | _ => fl
def cs_Port_drawMap (f_A_within : Int32 → Int32 → Int32 → M Int32) (f_Arrays_fill : Nat → Int32 → M Unit) (f_Table_at : Nat → Int32 → Int32 → M Int32) : List (Nat × Nat × CSem) := [(18, 3, W_A_within f_A_within), (13, 2, W_Arrays_fill f_Arrays_fill), (36, 3, W_Table_at f_Table_at)]
def B_Port_drawMap_21 (y : Int32) : M ((Int32) ⊕ (Unit)) :=
  bn (rd 25 3) fun v1 =>
  (if y < v1 then
    bn (F_Table_at 25 y (0 : Int32)) fun v2 =>
    bn (F_Table_at 25 y (1 : Int32)) fun v3 =>
    bn (F_A_within v2 (0 : Int32) (9 : Int32)) fun v4 =>
    (if v4 = 0 then
      rt (.inl (y + (1 : Int32)))
    else
      bn (F_A_within v3 (0 : Int32) (9 : Int32)) fun v5 =>
      (if v5 = 0 then
        rt (.inl (y + (1 : Int32)))
      else
        bn (ld 10 191 v2) fun v6 =>
        bn (sr 10 191 v2 (v6 ||| ((1 : Int32) <<< (v3 &&& 31)))) fun _ =>
        bn (ld 10 191 v3) fun v7 =>
        bn (sr 10 191 v3 (v7 ||| ((1 : Int32) <<< (v2 &&& 31)))) fun _ =>
        rt (.inl (y + (1 : Int32)))))
  else
    rt (.inr ()))
set_option maxRecDepth 4000 in
theorem e_b_Port_drawMap_21 (f_A_within : Int32 → Int32 → Int32 → M Int32) (f_Arrays_fill : Nat → Int32 → M Unit) (f_Table_at : Nat → Int32 → Int32 → M Int32) (y : Int32) : wf (β := (Int32) ⊕ (Unit)) L X q_Port_drawMap 0 (cs_Port_drawMap f_A_within f_Arrays_fill f_Table_at) [2, 3, 4] [21] (fun pc ls st => mC (Nat.beq pc 21) (mN st <| gI ls 2 fun a2 => gD ls 3 <| gD ls 4 <| rt (.inl a2)) (fl)) (fun v => match v with | none => rt (.inr ()) | _ => fl) 63 21 [(104, .ref 190), (108, .ref 25), (0, .int y), (0, dV), (0, dV)] [] = (bn (rd 25 3) fun v1 =>
  (if y < v1 then
    bn (f_Table_at 25 y (0 : Int32)) fun v2 =>
    bn (f_Table_at 25 y (1 : Int32)) fun v3 =>
    bn (f_A_within v2 (0 : Int32) (9 : Int32)) fun v4 =>
    (if v4 = 0 then
      rt (.inl (y + (1 : Int32)))
    else
      bn (f_A_within v3 (0 : Int32) (9 : Int32)) fun v5 =>
      (if v5 = 0 then
        rt (.inl (y + (1 : Int32)))
      else
        bn (ld 10 191 v2) fun v6 =>
        bn (sr 10 191 v2 (v6 ||| ((1 : Int32) <<< (v3 &&& 31)))) fun _ =>
        bn (ld 10 191 v3) fun v7 =>
        bn (sr 10 191 v3 (v7 ||| ((1 : Int32) <<< (v2 &&& 31)))) fun _ =>
        rt (.inl (y + (1 : Int32)))))
  else
    rt (.inr ()))) := rfl
theorem b_Port_drawMap_21 {d : Nat} (hcs : AllS L X d (cs_Port_drawMap F_A_within F_Arrays_fill F_Table_at)) {o : Option Value × PH} {Q : ((Int32) ⊕ (Unit)) → MI → Prop} (qb : ∀ y I, Q (.inl y) I → At L X (d + 1) 115 21 [(104, .ref 190), (108, .ref 25), (0, .int y), (0, dV), (0, dV)] [] I o) (qr : ∀ v I, Q (.inr v) I → o = (none, HH I)) (y : Int32) (I : MI) (r : (Int32) ⊕ (Unit)) (I1 : MI) (h : B_Port_drawMap_21 y I = some (r, I1)) (hq : Q r I1) : At L X (d + 1) 115 21 [(104, .ref 190), (108, .ref 25), (0, .int y), (0, dV), (0, dV)] [] I o := by
  refine wf_ok z_Port_drawMap hcs ?_ ?_ _ _ _ _ _ ⟨rfl, rfl, trivial, trivial, trivial, trivial⟩ trivial (unm_refl _ _) ((congrFun (e_b_Port_drawMap_21 (L := L) (X := X) F_A_within F_Arrays_fill F_Table_at y) I).trans h)
  · intro pc ls st I2 h1 h2 h3 h
    rcases mC_ok h with ⟨hb, h⟩ | ⟨_, h⟩
    · have e := Nat.eq_of_beq_eq_true hb
      subst e
      obtain ⟨hst, h⟩ := mN_ok h
      subst hst
      obtain ⟨a2, n2, h⟩ := gI_ok h
      obtain ⟨n3, h⟩ := gD_ok h
      obtain ⟨n4, h⟩ := gD_ok h
      refine at_leaf (ls2 := [(104, .ref 190), (108, .ref 25), (0, .int a2), (0, dV), (0, dV)]) h3.1 ⟨Or.inr ⟨_, (h3.2 0 rfl).trans rfl⟩, Or.inr ⟨_, (h3.2 1 rfl).trans rfl⟩, Or.inr n2, Or.inl ⟨rfl, n3⟩, Or.inl ⟨rfl, n4⟩, trivial⟩ ?_
      cases h; exact qb _ _ hq
    cases h
  · intro v I2 _ h
    split at h
    · cases h; exact qr _ _ hq
    · cases h
def K_Port_drawMap_21 (x2 : Int32) : M (Unit) :=
  lp (B_Port_drawMap_21) FU x2
theorem s_Port_drawMap_21 {d : Nat} (hcs : AllS L X d (cs_Port_drawMap F_A_within F_Arrays_fill F_Table_at)) (x2 : Int32) {o : Option Value × PH} {Q : (Unit) → MI → Prop} (q0 : ∀ v I, Q v I → o = (none, HH I)) (I : MI) (r : Unit) (I1 : MI) (h : K_Port_drawMap_21 x2 I = some (r, I1)) (hq : Q r I1) : At L X (d + 1) 115 21 [(104, .ref 190), (108, .ref 25), (0, .int x2), (0, dV), (0, dV)] [] I o := by
  unfold K_Port_drawMap_21 at h
  have w0 := fun w => at_lp (body := B_Port_drawMap_21) (P := (fun (y : Int32) I => At L X (d + 1) 115 21 [(104, .ref 190), (108, .ref 25), (0, .int y), (0, dV), (0, dV)] [] I o)) (Q := (fun (e : Unit) I => Q e I)) w FU x2 I r I1 h hq
  refine w0 ?_
  intro y I r I1 h hq
  exact b_Port_drawMap_21 hcs (Q := SQ (fun (y : Int32) I => At L X (d + 1) 115 21 [(104, .ref 190), (108, .ref 25), (0, .int y), (0, dV), (0, dV)] [] I o) (fun (e : Unit) I => Q e I)) (fun _ _ w => w) q0 y I r I1 h hq
def F_Port_drawMap : M (Unit) :=
  bn (F_Arrays_fill 191 (0 : Int32)) fun _ =>
  K_Port_drawMap_21 (0 : Int32)
set_option maxRecDepth 4000 in
theorem e_s_Port_drawMap_0 (f_A_within : Int32 → Int32 → Int32 → M Int32) (f_Arrays_fill : Nat → Int32 → M Unit) (f_Table_at : Nat → Int32 → Int32 → M Int32) (k_21 : Int32 → M (Unit)) : wf (β := Unit) L X q_Port_drawMap 0 (cs_Port_drawMap f_A_within f_Arrays_fill f_Table_at) [1, 2] [21] (fun pc ls st => mC (Nat.beq pc 21) (mN st <| gC ls 1 108 25 <| gI ls 2 fun a2 => gD ls 3 <| gD ls 4 <| k_21 a2) (fl)) (fun v => match v with | none => rt () | _ => fl) 63 0 [(104, .ref 190), (0, dV), (0, dV), (0, dV), (0, dV)] [] = (bn (f_Arrays_fill 191 (0 : Int32)) fun _ =>
  k_21 (0 : Int32)) := rfl
theorem s_Port_drawMap_0 {d : Nat} (hcs : AllS L X d (cs_Port_drawMap F_A_within F_Arrays_fill F_Table_at)) {o : Option Value × PH} {Q : (Unit) → MI → Prop} (q0 : ∀ v I, Q v I → o = (none, HH I)) (I : MI) (r : Unit) (I1 : MI) (h : F_Port_drawMap I = some (r, I1)) (hq : Q r I1) : At L X (d + 1) 115 0 [(104, .ref 190), (0, dV), (0, dV), (0, dV), (0, dV)] [] I o := by
  refine wf_ok z_Port_drawMap hcs ?_ ?_ _ _ _ _ _ ⟨rfl, trivial, trivial, trivial, trivial, trivial⟩ trivial (unm_refl _ _) ((congrFun (e_s_Port_drawMap_0 (L := L) (X := X) F_A_within F_Arrays_fill F_Table_at K_Port_drawMap_21) I).trans h)
  · intro pc ls st I2 h1 h2 h3 h
    rcases mC_ok h with ⟨hb, h⟩ | ⟨_, h⟩
    · have e := Nat.eq_of_beq_eq_true hb
      subst e
      obtain ⟨hst, h⟩ := mN_ok h
      subst hst
      obtain ⟨n1, h⟩ := gC_ok h
      obtain ⟨a2, n2, h⟩ := gI_ok h
      obtain ⟨n3, h⟩ := gD_ok h
      obtain ⟨n4, h⟩ := gD_ok h
      refine at_leaf (ls2 := [(104, .ref 190), (108, .ref 25), (0, .int a2), (0, dV), (0, dV)]) h3.1 ⟨Or.inr ⟨_, (h3.2 0 rfl).trans rfl⟩, Or.inr n1, Or.inr n2, Or.inl ⟨rfl, n3⟩, Or.inl ⟨rfl, n4⟩, trivial⟩ ?_
      exact s_Port_drawMap_21 hcs a2 q0 _ _ _ h hq
    cases h
  · intro v I2 _ h
    split at h
    · cases h; exact q0 _ _ hq
    · cases h
theorem w_Port_drawMap {d : Nat} (hcs : AllS L X d (cs_Port_drawMap F_A_within F_Arrays_fill F_Table_at)) : Snd L X (d + 1) 115 1 (W_Port_drawMap F_Port_drawMap) := by
  refine ⟨_, z_Port_drawMap, rfl, fun β args k I r hty hlen h => ?_⟩
  unfold W_Port_drawMap at h
  split at h
  · rename_i t0 a0
    obtain ⟨hb0, h⟩ := mB_ok h
    have e0 := Nat.eq_of_beq_eq_true hb0
    have g0 : okB 104 a0 = true := e0 ▸ hty.1
    have e20 := one_104 g0
    subst e20
    obtain ⟨v, I1, h1, h2⟩ := bn_some h
    refine ⟨gf_obj (c := 4) (by decide) g0, rfl, none, I1, trivial, ?_, h2⟩
    exact s_Port_drawMap_0 hcs   (Q := fun w I => w = v ∧ I = I1) (fun w I q => by obtain ⟨rfl, rfl⟩ := q; rfl) I v I1 h1 ⟨rfl, rfl⟩
  · cases h
theorem S_Port_drawMap {d : Nat} (hd : 2 ≤ d) : Snd L X d 115 1 (W_Port_drawMap F_Port_drawMap) := by
  obtain ⟨e, rfl⟩ : ∃ e, d = e + 1 := ⟨d - 1, by omega⟩
  exact w_Port_drawMap ⟨S_A_within (by omega), S_Arrays_fill (by omega), S_Table_at (by omega), trivial⟩
set_option maxRecDepth 100000 in
theorem z_Port_watched : pT[153]? = some (q_Port_watched, 1, 3, 1, 4) := rfl
def W_Port_watched (F : M Int32) : CSem := fun _ args k => match args with
  | [(t0, .ref a0)] => mB (Nat.beq t0 104) <| bn (F) fun v => k (some (0, .int v))
  | _ => fl
def cs_Port_watched (f_Integer_bitCount : Int32 → M Int32) (f_Port_besideAny : Int32 → M Int32) (f_Port_drawMap : M Unit) : List (Nat × Nat × CSem) := [(53, 1, W_Integer_bitCount f_Integer_bitCount), (126, 2, W_Port_besideAny f_Port_besideAny), (115, 1, W_Port_drawMap f_Port_drawMap)]
def B_Port_watched_10 (y : Int32 × Int32) : M ((Int32 × Int32) ⊕ (Int32)) :=
  (if (1023 : Int32) < y.2 then
    rt (.inr y.1)
  else
    bn (F_Integer_bitCount y.2) fun v1 =>
    bn (F_Integer_bitCount y.1) fun v2 =>
    (if v1 < v2 then
      bn (F_Port_besideAny y.2) fun v3 =>
      (if (y.2 ||| v3) = (1023 : Int32) then
        rt (.inl (y.2, (y.2 + (1 : Int32))))
      else
        rt (.inl (y.1, (y.2 + (1 : Int32)))))
    else
      rt (.inl (y.1, (y.2 + (1 : Int32))))))
set_option maxRecDepth 4000 in
theorem e_b_Port_watched_10 (f_Integer_bitCount : Int32 → M Int32) (f_Port_besideAny : Int32 → M Int32) (f_Port_drawMap : M Unit) (y : Int32 × Int32) : wf (β := (Int32 × Int32) ⊕ (Int32)) L X q_Port_watched 1 (cs_Port_watched f_Integer_bitCount f_Port_besideAny f_Port_drawMap) [1, 2] [10] (fun pc ls st => mC (Nat.beq pc 10) (mN st <| gI ls 1 fun a1 => gI ls 2 fun a2 => rt (.inl (a1, a2))) (fl)) (fun v => match v with | some (_, .int x) => rt (.inr x) | _ => fl) 32 10 [(104, .ref 190), (0, .int y.1), (0, .int y.2)] [] = ((if (1023 : Int32) < y.2 then
    rt (.inr y.1)
  else
    bn (f_Integer_bitCount y.2) fun v1 =>
    bn (f_Integer_bitCount y.1) fun v2 =>
    (if v1 < v2 then
      bn (f_Port_besideAny y.2) fun v3 =>
      (if (y.2 ||| v3) = (1023 : Int32) then
        rt (.inl (y.2, (y.2 + (1 : Int32))))
      else
        rt (.inl (y.1, (y.2 + (1 : Int32)))))
    else
      rt (.inl (y.1, (y.2 + (1 : Int32))))))) := rfl
theorem b_Port_watched_10 {d : Nat} (hcs : AllS L X d (cs_Port_watched F_Integer_bitCount F_Port_besideAny F_Port_drawMap)) {o : Option Value × PH} {Q : ((Int32 × Int32) ⊕ (Int32)) → MI → Prop} (qb : ∀ y I, Q (.inl y) I → At L X (d + 1) 153 10 [(104, .ref 190), (0, .int y.1), (0, .int y.2)] [] I o) (qr : ∀ v I, Q (.inr v) I → o = (some (.int v), HH I)) (y : Int32 × Int32) (I : MI) (r : (Int32 × Int32) ⊕ (Int32)) (I1 : MI) (h : B_Port_watched_10 y I = some (r, I1)) (hq : Q r I1) : At L X (d + 1) 153 10 [(104, .ref 190), (0, .int y.1), (0, .int y.2)] [] I o := by
  refine wf_ok z_Port_watched hcs ?_ ?_ _ _ _ _ _ ⟨rfl, trivial, trivial, trivial⟩ trivial (unm_refl _ _) ((congrFun (e_b_Port_watched_10 (L := L) (X := X) F_Integer_bitCount F_Port_besideAny F_Port_drawMap y) I).trans h)
  · intro pc ls st I2 h1 h2 h3 h
    rcases mC_ok h with ⟨hb, h⟩ | ⟨_, h⟩
    · have e := Nat.eq_of_beq_eq_true hb
      subst e
      obtain ⟨hst, h⟩ := mN_ok h
      subst hst
      obtain ⟨a1, n1, h⟩ := gI_ok h
      obtain ⟨a2, n2, h⟩ := gI_ok h
      refine at_leaf (ls2 := [(104, .ref 190), (0, .int a1), (0, .int a2)]) h3.1 ⟨Or.inr ⟨_, (h3.2 0 rfl).trans rfl⟩, Or.inr n1, Or.inr n2, trivial⟩ ?_
      cases h; exact qb _ _ hq
    cases h
  · intro v I2 _ h
    split at h
    · cases h; exact qr _ _ hq
    · cases h
def K_Port_watched_10 (x1 : Int32) (x2 : Int32) : M (Int32) :=
  lp (B_Port_watched_10) FU (x1, x2)
theorem s_Port_watched_10 {d : Nat} (hcs : AllS L X d (cs_Port_watched F_Integer_bitCount F_Port_besideAny F_Port_drawMap)) (x1 : Int32) (x2 : Int32) {o : Option Value × PH} {Q : (Int32) → MI → Prop} (q0 : ∀ v I, Q v I → o = (some (.int v), HH I)) (I : MI) (r : Int32) (I1 : MI) (h : K_Port_watched_10 x1 x2 I = some (r, I1)) (hq : Q r I1) : At L X (d + 1) 153 10 [(104, .ref 190), (0, .int x1), (0, .int x2)] [] I o := by
  unfold K_Port_watched_10 at h
  have w0 := fun w => at_lp (body := B_Port_watched_10) (P := (fun (y : Int32 × Int32) I => At L X (d + 1) 153 10 [(104, .ref 190), (0, .int y.1), (0, .int y.2)] [] I o)) (Q := (fun (e : Int32) I => Q e I)) w FU (x1, x2) I r I1 h hq
  refine w0 ?_
  intro y I r I1 h hq
  exact b_Port_watched_10 hcs (Q := SQ (fun (y : Int32 × Int32) I => At L X (d + 1) 153 10 [(104, .ref 190), (0, .int y.1), (0, .int y.2)] [] I o) (fun (e : Int32) I => Q e I)) (fun _ _ w => w) q0 y I r I1 h hq
def F_Port_watched : M (Int32) :=
  bn (F_Port_drawMap) fun _ =>
  K_Port_watched_10 (1023 : Int32) (0 : Int32)
set_option maxRecDepth 4000 in
theorem e_s_Port_watched_0 (f_Integer_bitCount : Int32 → M Int32) (f_Port_besideAny : Int32 → M Int32) (f_Port_drawMap : M Unit) (k_10 : Int32 → Int32 → M (Int32)) : wf (β := Int32) L X q_Port_watched 1 (cs_Port_watched f_Integer_bitCount f_Port_besideAny f_Port_drawMap) [1, 2] [10] (fun pc ls st => mC (Nat.beq pc 10) (mN st <| gI ls 1 fun a1 => gI ls 2 fun a2 => k_10 a1 a2) (fl)) (fun v => match v with | some (_, .int x) => rt x | _ => fl) 32 0 [(104, .ref 190), (0, dV), (0, dV)] [] = (bn (f_Port_drawMap) fun _ =>
  k_10 (1023 : Int32) (0 : Int32)) := rfl
theorem s_Port_watched_0 {d : Nat} (hcs : AllS L X d (cs_Port_watched F_Integer_bitCount F_Port_besideAny F_Port_drawMap)) {o : Option Value × PH} {Q : (Int32) → MI → Prop} (q0 : ∀ v I, Q v I → o = (some (.int v), HH I)) (I : MI) (r : Int32) (I1 : MI) (h : F_Port_watched I = some (r, I1)) (hq : Q r I1) : At L X (d + 1) 153 0 [(104, .ref 190), (0, dV), (0, dV)] [] I o := by
  refine wf_ok z_Port_watched hcs ?_ ?_ _ _ _ _ _ ⟨rfl, trivial, trivial, trivial⟩ trivial (unm_refl _ _) ((congrFun (e_s_Port_watched_0 (L := L) (X := X) F_Integer_bitCount F_Port_besideAny F_Port_drawMap K_Port_watched_10) I).trans h)
  · intro pc ls st I2 h1 h2 h3 h
    rcases mC_ok h with ⟨hb, h⟩ | ⟨_, h⟩
    · have e := Nat.eq_of_beq_eq_true hb
      subst e
      obtain ⟨hst, h⟩ := mN_ok h
      subst hst
      obtain ⟨a1, n1, h⟩ := gI_ok h
      obtain ⟨a2, n2, h⟩ := gI_ok h
      refine at_leaf (ls2 := [(104, .ref 190), (0, .int a1), (0, .int a2)]) h3.1 ⟨Or.inr ⟨_, (h3.2 0 rfl).trans rfl⟩, Or.inr n1, Or.inr n2, trivial⟩ ?_
      exact s_Port_watched_10 hcs a1 a2 q0 _ _ _ h hq
    cases h
  · intro v I2 _ h
    split at h
    · cases h; exact q0 _ _ hq
    · cases h
theorem w_Port_watched {d : Nat} (hcs : AllS L X d (cs_Port_watched F_Integer_bitCount F_Port_besideAny F_Port_drawMap)) : Snd L X (d + 1) 153 1 (W_Port_watched F_Port_watched) := by
  refine ⟨_, z_Port_watched, rfl, fun β args k I r hty hlen h => ?_⟩
  unfold W_Port_watched at h
  split at h
  · rename_i t0 a0
    obtain ⟨hb0, h⟩ := mB_ok h
    have e0 := Nat.eq_of_beq_eq_true hb0
    have g0 : okB 104 a0 = true := e0 ▸ hty.1
    have e20 := one_104 g0
    subst e20
    obtain ⟨v, I1, h1, h2⟩ := bn_some h
    refine ⟨gf_obj (c := 4) (by decide) g0, rfl, some (0, .int v), I1, trivial, ?_, h2⟩
    exact s_Port_watched_0 hcs   (Q := fun w I => w = v ∧ I = I1) (fun w I q => by obtain ⟨rfl, rfl⟩ := q; rfl) I v I1 h1 ⟨rfl, rfl⟩
  · cases h
theorem S_Port_watched {d : Nat} (hd : 3 ≤ d) : Snd L X d 153 1 (W_Port_watched F_Port_watched) := by
  obtain ⟨e, rfl⟩ : ∃ e, d = e + 1 := ⟨d - 1, by omega⟩
  exact w_Port_watched ⟨S_Integer_bitCount (by omega), S_Port_besideAny (by omega), S_Port_drawMap (by omega), trivial⟩
set_option maxRecDepth 100000 in
theorem z_Texts_busiest : pT[152]? = some (q_Texts_busiest, 2, 7, 1, 9) := rfl
def W_Texts_busiest (F : Nat → Int32 → M Int32) : CSem := fun _ args k => match args with
  | [(t0, .ref a0), (_, .int a1)] => mB (Nat.beq t0 109) <| bn (F a0 a1) fun v => k (some (0, .int v))
  | _ => fl
def cs_Texts_busiest (f_Texts_holds : Nat → Int32 → Int32 → M Int32) : List (Nat × Nat × CSem) := [(41, 3, W_Texts_holds f_Texts_holds)]
def B_Texts_busiest_20 (r0 : Nat) (x1 : Int32) (x2 : Int32) (x3 : Int32) (x4 : Int32) (y : Int32 × Int32) : M ((Int32 × Int32) ⊕ ((Int32))) :=
  bn (rd (r0 + 6) 3) fun v1 =>
  (if y.2 < v1 then
    bn (F_Texts_holds r0 y.2 x4) fun v2 =>
    (if v2 = 0 then
      rt (.inl ((y.1 + (0 : Int32)), (y.2 + (1 : Int32))))
    else
      rt (.inl ((y.1 + (1 : Int32)), (y.2 + (1 : Int32)))))
  else
    rt (.inr y.1))
set_option maxRecDepth 4000 in
theorem e_b_Texts_busiest_20 (f_Texts_holds : Nat → Int32 → Int32 → M Int32) (r0 : Nat) (x1 : Int32) (x2 : Int32) (x3 : Int32) (x4 : Int32) (y : Int32 × Int32) : wf (β := (Int32 × Int32) ⊕ ((Int32))) L X q_Texts_busiest 1 (cs_Texts_busiest f_Texts_holds) [5, 6] [7, 20, 59, 77] (fun pc ls st => mC (Nat.beq pc 20) (mN st <| gI ls 5 fun a5 => gI ls 6 fun a6 => rt (.inl (a5, a6))) (mC (Nat.beq pc 59) (mN st <| gI ls 5 fun a5 => gD ls 6 <| rt (.inr a5)) (fl))) (fun _ => fl) 51 20 [(109, .ref r0), (0, .int x1), (0, .int x2), (0, .int x3), (0, .int x4), (0, .int y.1), (0, .int y.2)] [] = (bn (rd (r0 + 6) 3) fun v1 =>
  (if y.2 < v1 then
    bn (f_Texts_holds r0 y.2 x4) fun v2 =>
    (if v2 = 0 then
      rt (.inl ((y.1 + (0 : Int32)), (y.2 + (1 : Int32))))
    else
      rt (.inl ((y.1 + (1 : Int32)), (y.2 + (1 : Int32)))))
  else
    rt (.inr y.1))) := rfl
theorem b_Texts_busiest_20 {d : Nat} (hcs : AllS L X d (cs_Texts_busiest F_Texts_holds)) (r0 : Nat) (x1 : Int32) (x2 : Int32) (x3 : Int32) (x4 : Int32) (t0 : okB 109 r0 = true) {o : Option Value × PH} {Q : ((Int32 × Int32) ⊕ ((Int32))) → MI → Prop} (qb : ∀ y I, Q (.inl y) I → At L X (d + 1) 152 20 [(109, .ref r0), (0, .int x1), (0, .int x2), (0, .int x3), (0, .int x4), (0, .int y.1), (0, .int y.2)] [] I o) (qe59 : ∀ y I, Q (.inr y) I → At L X (d + 1) 152 59 [(109, .ref r0), (0, .int x1), (0, .int x2), (0, .int x3), (0, .int x4), (0, .int y), (0, dV)] [] I o) (y : Int32 × Int32) (I : MI) (r : (Int32 × Int32) ⊕ ((Int32))) (I1 : MI) (h : B_Texts_busiest_20 r0 x1 x2 x3 x4 y I = some (r, I1)) (hq : Q r I1) : At L X (d + 1) 152 20 [(109, .ref r0), (0, .int x1), (0, .int x2), (0, .int x3), (0, .int x4), (0, .int y.1), (0, .int y.2)] [] I o := by
  refine wf_ok z_Texts_busiest hcs ?_ ?_ _ _ _ _ _ ⟨t0, trivial, trivial, trivial, trivial, trivial, trivial, trivial⟩ trivial (unm_refl _ _) ((congrFun (e_b_Texts_busiest_20 (L := L) (X := X) F_Texts_holds r0 x1 x2 x3 x4 y) I).trans h)
  · intro pc ls st I2 h1 h2 h3 h
    rcases mC_ok h with ⟨hb, h⟩ | ⟨_, h⟩
    · have e := Nat.eq_of_beq_eq_true hb
      subst e
      obtain ⟨hst, h⟩ := mN_ok h
      subst hst
      obtain ⟨a5, n5, h⟩ := gI_ok h
      obtain ⟨a6, n6, h⟩ := gI_ok h
      refine at_leaf (ls2 := [(109, .ref r0), (0, .int x1), (0, .int x2), (0, .int x3), (0, .int x4), (0, .int a5), (0, .int a6)]) h3.1 ⟨Or.inr ⟨_, (h3.2 0 rfl).trans rfl⟩, Or.inr ⟨_, (h3.2 1 rfl).trans rfl⟩, Or.inr ⟨_, (h3.2 2 rfl).trans rfl⟩, Or.inr ⟨_, (h3.2 3 rfl).trans rfl⟩, Or.inr ⟨_, (h3.2 4 rfl).trans rfl⟩, Or.inr n5, Or.inr n6, trivial⟩ ?_
      cases h; exact qb _ _ hq
    rcases mC_ok h with ⟨hb, h⟩ | ⟨_, h⟩
    · have e := Nat.eq_of_beq_eq_true hb
      subst e
      obtain ⟨hst, h⟩ := mN_ok h
      subst hst
      obtain ⟨a5, n5, h⟩ := gI_ok h
      obtain ⟨n6, h⟩ := gD_ok h
      refine at_leaf (ls2 := [(109, .ref r0), (0, .int x1), (0, .int x2), (0, .int x3), (0, .int x4), (0, .int a5), (0, dV)]) h3.1 ⟨Or.inr ⟨_, (h3.2 0 rfl).trans rfl⟩, Or.inr ⟨_, (h3.2 1 rfl).trans rfl⟩, Or.inr ⟨_, (h3.2 2 rfl).trans rfl⟩, Or.inr ⟨_, (h3.2 3 rfl).trans rfl⟩, Or.inr ⟨_, (h3.2 4 rfl).trans rfl⟩, Or.inr n5, Or.inl ⟨rfl, n6⟩, trivial⟩ ?_
      cases h; exact qe59 _ _ hq
    cases h
  · intro v I2 _ h
    cases h
def K_Texts_busiest_59 (r0 : Nat) (x1 : Int32) (x2 : Int32) (x3 : Int32) (x4 : Int32) (x5 : Int32) : M ((Int32 × Int32 × Int32) ⊕ ((Int32 × Int32))) :=
  (if x2 < x5 then
    rt (.inl (x5, x4, (x4 + (1 : Int32))))
  else
    rt (.inl (x2, x3, (x4 + (1 : Int32)))))
set_option maxRecDepth 4000 in
theorem e_s_Texts_busiest_59 (f_Texts_holds : Nat → Int32 → Int32 → M Int32) (r0 : Nat) (x1 : Int32) (x2 : Int32) (x3 : Int32) (x4 : Int32) (x5 : Int32) : wf (β := (Int32 × Int32 × Int32) ⊕ ((Int32 × Int32))) L X q_Texts_busiest 1 (cs_Texts_busiest f_Texts_holds) [2, 3, 4] [7, 20, 59, 77] (fun pc ls st => mC (Nat.beq pc 7) (mN st <| gI ls 2 fun a2 => gI ls 3 fun a3 => gI ls 4 fun a4 => gD ls 5 <| gD ls 6 <| rt (.inl (a2, a3, a4))) (fl)) (fun _ => fl) 51 59 [(109, .ref r0), (0, .int x1), (0, .int x2), (0, .int x3), (0, .int x4), (0, .int x5), (0, dV)] [] = ((if x2 < x5 then
    rt (.inl (x5, x4, (x4 + (1 : Int32))))
  else
    rt (.inl (x2, x3, (x4 + (1 : Int32)))))) := rfl
theorem s_Texts_busiest_59 {d : Nat} (hcs : AllS L X d (cs_Texts_busiest F_Texts_holds)) (r0 : Nat) (x1 : Int32) (x2 : Int32) (x3 : Int32) (x4 : Int32) (x5 : Int32) (t0 : okB 109 r0 = true) {o : Option Value × PH} {Q : ((Int32 × Int32 × Int32) ⊕ ((Int32 × Int32))) → MI → Prop} (qb : ∀ y I, Q (.inl y) I → At L X (d + 1) 152 7 [(109, .ref r0), (0, .int x1), (0, .int y.1), (0, .int y.2.1), (0, .int y.2.2), (0, dV), (0, dV)] [] I o) (qe77 : ∀ y I, Q (.inr y) I → At L X (d + 1) 152 77 [(0, dV), (0, .int x1), (0, .int y.1), (0, .int y.2), (0, dV), (0, dV), (0, dV)] [] I o) (I : MI) (r : (Int32 × Int32 × Int32) ⊕ ((Int32 × Int32))) (I1 : MI) (h : K_Texts_busiest_59 r0 x1 x2 x3 x4 x5 I = some (r, I1)) (hq : Q r I1) : At L X (d + 1) 152 59 [(109, .ref r0), (0, .int x1), (0, .int x2), (0, .int x3), (0, .int x4), (0, .int x5), (0, dV)] [] I o := by
  refine wf_ok z_Texts_busiest hcs ?_ ?_ _ _ _ _ _ ⟨t0, trivial, trivial, trivial, trivial, trivial, trivial, trivial⟩ trivial (unm_refl _ _) ((congrFun (e_s_Texts_busiest_59 (L := L) (X := X) F_Texts_holds r0 x1 x2 x3 x4 x5) I).trans h)
  · intro pc ls st I2 h1 h2 h3 h
    rcases mC_ok h with ⟨hb, h⟩ | ⟨_, h⟩
    · have e := Nat.eq_of_beq_eq_true hb
      subst e
      obtain ⟨hst, h⟩ := mN_ok h
      subst hst
      obtain ⟨a2, n2, h⟩ := gI_ok h
      obtain ⟨a3, n3, h⟩ := gI_ok h
      obtain ⟨a4, n4, h⟩ := gI_ok h
      obtain ⟨n5, h⟩ := gD_ok h
      obtain ⟨n6, h⟩ := gD_ok h
      refine at_leaf (ls2 := [(109, .ref r0), (0, .int x1), (0, .int a2), (0, .int a3), (0, .int a4), (0, dV), (0, dV)]) h3.1 ⟨Or.inr ⟨_, (h3.2 0 rfl).trans rfl⟩, Or.inr ⟨_, (h3.2 1 rfl).trans rfl⟩, Or.inr n2, Or.inr n3, Or.inr n4, Or.inl ⟨rfl, n5⟩, Or.inl ⟨rfl, n6⟩, trivial⟩ ?_
      cases h; exact qb _ _ hq
    cases h
  · intro v I2 _ h
    cases h
def K_Texts_busiest_20 (r0 : Nat) (x1 : Int32) (x2 : Int32) (x3 : Int32) (x4 : Int32) (x5 : Int32) (x6 : Int32) : M ((Int32 × Int32 × Int32) ⊕ ((Int32 × Int32))) :=
  bn (lp (B_Texts_busiest_20 r0 x1 x2 x3 x4) FU (x5, x6)) fun e => K_Texts_busiest_59 r0 x1 x2 x3 x4 e
theorem s_Texts_busiest_20 {d : Nat} (hcs : AllS L X d (cs_Texts_busiest F_Texts_holds)) (r0 : Nat) (x1 : Int32) (x2 : Int32) (x3 : Int32) (x4 : Int32) (x5 : Int32) (x6 : Int32) (t0 : okB 109 r0 = true) {o : Option Value × PH} {Q : ((Int32 × Int32 × Int32) ⊕ ((Int32 × Int32))) → MI → Prop} (qb : ∀ y I, Q (.inl y) I → At L X (d + 1) 152 7 [(109, .ref r0), (0, .int x1), (0, .int y.1), (0, .int y.2.1), (0, .int y.2.2), (0, dV), (0, dV)] [] I o) (qe77 : ∀ y I, Q (.inr y) I → At L X (d + 1) 152 77 [(0, dV), (0, .int x1), (0, .int y.1), (0, .int y.2), (0, dV), (0, dV), (0, dV)] [] I o) (I : MI) (r : (Int32 × Int32 × Int32) ⊕ ((Int32 × Int32))) (I1 : MI) (h : K_Texts_busiest_20 r0 x1 x2 x3 x4 x5 x6 I = some (r, I1)) (hq : Q r I1) : At L X (d + 1) 152 20 [(109, .ref r0), (0, .int x1), (0, .int x2), (0, .int x3), (0, .int x4), (0, .int x5), (0, .int x6)] [] I o := by
  unfold K_Texts_busiest_20 at h
  obtain ⟨e, I2, h1, h2⟩ := bn_some h
  have w0 := fun w => at_lp (body := B_Texts_busiest_20 r0 x1 x2 x3 x4) (P := (fun (y : Int32 × Int32) I => At L X (d + 1) 152 20 [(109, .ref r0), (0, .int x1), (0, .int x2), (0, .int x3), (0, .int x4), (0, .int y.1), (0, .int y.2)] [] I o)) (Q := (fun (e : (Int32)) I => (K_Texts_busiest_59 r0 x1 x2 x3 x4 e) I = some (r, I1))) w FU (x5, x6) I e I2 h1 h2
  refine w0 ?_
  intro y I r2 I3 h hq2
  exact b_Texts_busiest_20 hcs r0 x1 x2 x3 x4 t0 (Q := SQ (fun (y : Int32 × Int32) I => At L X (d + 1) 152 20 [(109, .ref r0), (0, .int x1), (0, .int x2), (0, .int x3), (0, .int x4), (0, .int y.1), (0, .int y.2)] [] I o) (fun (e : (Int32)) I => (K_Texts_busiest_59 r0 x1 x2 x3 x4 e) I = some (r, I1))) (fun _ _ w => w) (fun y I w => s_Texts_busiest_59 hcs r0 x1 x2 x3 x4 y t0 qb qe77 _ _ _ w hq) y I r2 I3 h hq2
def B_Texts_busiest_7 (r0 : Nat) (x1 : Int32) (y : Int32 × Int32 × Int32) : M ((Int32 × Int32 × Int32) ⊕ ((Int32 × Int32))) :=
  (if y.2.2 < (24 : Int32) then
    K_Texts_busiest_20 r0 x1 y.1 y.2.1 y.2.2 (0 : Int32) (0 : Int32)
  else
    rt (.inr (y.1, y.2.1)))
set_option maxRecDepth 4000 in
theorem e_b_Texts_busiest_7 (f_Texts_holds : Nat → Int32 → Int32 → M Int32) (k_20 : Nat → Int32 → Int32 → Int32 → Int32 → Int32 → Int32 → M ((Int32 × Int32 × Int32) ⊕ ((Int32 × Int32)))) (r0 : Nat) (x1 : Int32) (y : Int32 × Int32 × Int32) : wf (β := (Int32 × Int32 × Int32) ⊕ ((Int32 × Int32))) L X q_Texts_busiest 1 (cs_Texts_busiest f_Texts_holds) [5, 6] [7, 20, 59, 77] (fun pc ls st => mC (Nat.beq pc 20) (mN st <| gI ls 5 fun a5 => gI ls 6 fun a6 => k_20 r0 x1 y.1 y.2.1 y.2.2 a5 a6) (mC (Nat.beq pc 77) (mN st <| gD ls 0 <| gD ls 4 <| gD ls 5 <| gD ls 6 <| rt (.inr (y.1, y.2.1))) (fl))) (fun _ => fl) 51 7 [(109, .ref r0), (0, .int x1), (0, .int y.1), (0, .int y.2.1), (0, .int y.2.2), (0, dV), (0, dV)] [] = ((if y.2.2 < (24 : Int32) then
    k_20 r0 x1 y.1 y.2.1 y.2.2 (0 : Int32) (0 : Int32)
  else
    rt (.inr (y.1, y.2.1)))) := rfl
theorem b_Texts_busiest_7 {d : Nat} (hcs : AllS L X d (cs_Texts_busiest F_Texts_holds)) (r0 : Nat) (x1 : Int32) (t0 : okB 109 r0 = true) {o : Option Value × PH} {Q : ((Int32 × Int32 × Int32) ⊕ ((Int32 × Int32))) → MI → Prop} (qb : ∀ y I, Q (.inl y) I → At L X (d + 1) 152 7 [(109, .ref r0), (0, .int x1), (0, .int y.1), (0, .int y.2.1), (0, .int y.2.2), (0, dV), (0, dV)] [] I o) (qe77 : ∀ y I, Q (.inr y) I → At L X (d + 1) 152 77 [(0, dV), (0, .int x1), (0, .int y.1), (0, .int y.2), (0, dV), (0, dV), (0, dV)] [] I o) (y : Int32 × Int32 × Int32) (I : MI) (r : (Int32 × Int32 × Int32) ⊕ ((Int32 × Int32))) (I1 : MI) (h : B_Texts_busiest_7 r0 x1 y I = some (r, I1)) (hq : Q r I1) : At L X (d + 1) 152 7 [(109, .ref r0), (0, .int x1), (0, .int y.1), (0, .int y.2.1), (0, .int y.2.2), (0, dV), (0, dV)] [] I o := by
  refine wf_ok z_Texts_busiest hcs ?_ ?_ _ _ _ _ _ ⟨t0, trivial, trivial, trivial, trivial, trivial, trivial, trivial⟩ trivial (unm_refl _ _) ((congrFun (e_b_Texts_busiest_7 (L := L) (X := X) F_Texts_holds K_Texts_busiest_20 r0 x1 y) I).trans h)
  · intro pc ls st I2 h1 h2 h3 h
    rcases mC_ok h with ⟨hb, h⟩ | ⟨_, h⟩
    · have e := Nat.eq_of_beq_eq_true hb
      subst e
      obtain ⟨hst, h⟩ := mN_ok h
      subst hst
      obtain ⟨a5, n5, h⟩ := gI_ok h
      obtain ⟨a6, n6, h⟩ := gI_ok h
      refine at_leaf (ls2 := [(109, .ref r0), (0, .int x1), (0, .int y.1), (0, .int y.2.1), (0, .int y.2.2), (0, .int a5), (0, .int a6)]) h3.1 ⟨Or.inr ⟨_, (h3.2 0 rfl).trans rfl⟩, Or.inr ⟨_, (h3.2 1 rfl).trans rfl⟩, Or.inr ⟨_, (h3.2 2 rfl).trans rfl⟩, Or.inr ⟨_, (h3.2 3 rfl).trans rfl⟩, Or.inr ⟨_, (h3.2 4 rfl).trans rfl⟩, Or.inr n5, Or.inr n6, trivial⟩ ?_
      exact s_Texts_busiest_20 hcs r0 x1 y.1 y.2.1 y.2.2 a5 a6 t0 qb qe77 _ _ _ h hq
    rcases mC_ok h with ⟨hb, h⟩ | ⟨_, h⟩
    · have e := Nat.eq_of_beq_eq_true hb
      subst e
      obtain ⟨hst, h⟩ := mN_ok h
      subst hst
      obtain ⟨n0, h⟩ := gD_ok h
      obtain ⟨n4, h⟩ := gD_ok h
      obtain ⟨n5, h⟩ := gD_ok h
      obtain ⟨n6, h⟩ := gD_ok h
      refine at_leaf (ls2 := [(0, dV), (0, .int x1), (0, .int y.1), (0, .int y.2.1), (0, dV), (0, dV), (0, dV)]) h3.1 ⟨Or.inl ⟨rfl, n0⟩, Or.inr ⟨_, (h3.2 1 rfl).trans rfl⟩, Or.inr ⟨_, (h3.2 2 rfl).trans rfl⟩, Or.inr ⟨_, (h3.2 3 rfl).trans rfl⟩, Or.inl ⟨rfl, n4⟩, Or.inl ⟨rfl, n5⟩, Or.inl ⟨rfl, n6⟩, trivial⟩ ?_
      cases h; exact qe77 _ _ hq
    cases h
  · intro v I2 _ h
    cases h
def K_Texts_busiest_77 (x1 : Int32) (x2 : Int32) (x3 : Int32) : M (Int32) :=
  (if x1 = 0 then
    rt x2
  else
    rt x3)
set_option maxRecDepth 4000 in
theorem e_s_Texts_busiest_77 (f_Texts_holds : Nat → Int32 → Int32 → M Int32) (x1 : Int32) (x2 : Int32) (x3 : Int32) : wf (β := Int32) L X q_Texts_busiest 1 (cs_Texts_busiest f_Texts_holds) [] [7, 20, 59, 77] (fun _ _ _ => fl) (fun v => match v with | some (_, .int x) => rt x | _ => fl) 51 77 [(0, dV), (0, .int x1), (0, .int x2), (0, .int x3), (0, dV), (0, dV), (0, dV)] [] = ((if x1 = 0 then
    rt x2
  else
    rt x3)) := rfl
theorem s_Texts_busiest_77 {d : Nat} (hcs : AllS L X d (cs_Texts_busiest F_Texts_holds)) (x1 : Int32) (x2 : Int32) (x3 : Int32) {o : Option Value × PH} {Q : (Int32) → MI → Prop} (q0 : ∀ v I, Q v I → o = (some (.int v), HH I)) (I : MI) (r : Int32) (I1 : MI) (h : K_Texts_busiest_77 x1 x2 x3 I = some (r, I1)) (hq : Q r I1) : At L X (d + 1) 152 77 [(0, dV), (0, .int x1), (0, .int x2), (0, .int x3), (0, dV), (0, dV), (0, dV)] [] I o := by
  refine wf_ok z_Texts_busiest hcs ?_ ?_ _ _ _ _ _ ⟨trivial, trivial, trivial, trivial, trivial, trivial, trivial, trivial⟩ trivial (unm_refl _ _) ((congrFun (e_s_Texts_busiest_77 (L := L) (X := X) F_Texts_holds x1 x2 x3) I).trans h)
  · intro pc ls st I2 h1 h2 h3 h
    cases h
  · intro v I2 _ h
    split at h
    · cases h; exact q0 _ _ hq
    · cases h
def K_Texts_busiest_7 (r0 : Nat) (x1 : Int32) (x2 : Int32) (x3 : Int32) (x4 : Int32) : M (Int32) :=
  bn (lp (B_Texts_busiest_7 r0 x1) FU (x2, x3, x4)) fun e => K_Texts_busiest_77 x1 e.1 e.2
theorem s_Texts_busiest_7 {d : Nat} (hcs : AllS L X d (cs_Texts_busiest F_Texts_holds)) (r0 : Nat) (x1 : Int32) (x2 : Int32) (x3 : Int32) (x4 : Int32) (t0 : okB 109 r0 = true) {o : Option Value × PH} {Q : (Int32) → MI → Prop} (q0 : ∀ v I, Q v I → o = (some (.int v), HH I)) (I : MI) (r : Int32) (I1 : MI) (h : K_Texts_busiest_7 r0 x1 x2 x3 x4 I = some (r, I1)) (hq : Q r I1) : At L X (d + 1) 152 7 [(109, .ref r0), (0, .int x1), (0, .int x2), (0, .int x3), (0, .int x4), (0, dV), (0, dV)] [] I o := by
  unfold K_Texts_busiest_7 at h
  obtain ⟨e, I2, h1, h2⟩ := bn_some h
  have w0 := fun w => at_lp (body := B_Texts_busiest_7 r0 x1) (P := (fun (y : Int32 × Int32 × Int32) I => At L X (d + 1) 152 7 [(109, .ref r0), (0, .int x1), (0, .int y.1), (0, .int y.2.1), (0, .int y.2.2), (0, dV), (0, dV)] [] I o)) (Q := (fun (e : (Int32 × Int32)) I => (K_Texts_busiest_77 x1 e.1 e.2) I = some (r, I1))) w FU (x2, x3, x4) I e I2 h1 h2
  refine w0 ?_
  intro y I r2 I3 h hq2
  exact b_Texts_busiest_7 hcs r0 x1 t0 (Q := SQ (fun (y : Int32 × Int32 × Int32) I => At L X (d + 1) 152 7 [(109, .ref r0), (0, .int x1), (0, .int y.1), (0, .int y.2.1), (0, .int y.2.2), (0, dV), (0, dV)] [] I o) (fun (e : (Int32 × Int32)) I => (K_Texts_busiest_77 x1 e.1 e.2) I = some (r, I1))) (fun _ _ w => w) (fun y I w => s_Texts_busiest_77 hcs x1 y.1 y.2 q0 _ _ _ w hq) y I r2 I3 h hq2
def F_Texts_busiest (r0 : Nat) (x1 : Int32) : M (Int32) :=
  K_Texts_busiest_7 r0 x1 (0 : Int32) (0 : Int32) (0 : Int32)
set_option maxRecDepth 4000 in
theorem e_s_Texts_busiest_0 (f_Texts_holds : Nat → Int32 → Int32 → M Int32) (k_7 : Nat → Int32 → Int32 → Int32 → Int32 → M (Int32)) (r0 : Nat) (x1 : Int32) : wf (β := Int32) L X q_Texts_busiest 1 (cs_Texts_busiest f_Texts_holds) [2, 3, 4] [7, 20, 59, 77] (fun pc ls st => mC (Nat.beq pc 7) (mN st <| gI ls 2 fun a2 => gI ls 3 fun a3 => gI ls 4 fun a4 => gD ls 5 <| gD ls 6 <| k_7 r0 x1 a2 a3 a4) (fl)) (fun v => match v with | some (_, .int x) => rt x | _ => fl) 51 0 [(109, .ref r0), (0, .int x1), (0, dV), (0, dV), (0, dV), (0, dV), (0, dV)] [] = (k_7 r0 x1 (0 : Int32) (0 : Int32) (0 : Int32)) := rfl
theorem s_Texts_busiest_0 {d : Nat} (hcs : AllS L X d (cs_Texts_busiest F_Texts_holds)) (r0 : Nat) (x1 : Int32) (t0 : okB 109 r0 = true) {o : Option Value × PH} {Q : (Int32) → MI → Prop} (q0 : ∀ v I, Q v I → o = (some (.int v), HH I)) (I : MI) (r : Int32) (I1 : MI) (h : F_Texts_busiest r0 x1 I = some (r, I1)) (hq : Q r I1) : At L X (d + 1) 152 0 [(109, .ref r0), (0, .int x1), (0, dV), (0, dV), (0, dV), (0, dV), (0, dV)] [] I o := by
  refine wf_ok z_Texts_busiest hcs ?_ ?_ _ _ _ _ _ ⟨t0, trivial, trivial, trivial, trivial, trivial, trivial, trivial⟩ trivial (unm_refl _ _) ((congrFun (e_s_Texts_busiest_0 (L := L) (X := X) F_Texts_holds K_Texts_busiest_7 r0 x1) I).trans h)
  · intro pc ls st I2 h1 h2 h3 h
    rcases mC_ok h with ⟨hb, h⟩ | ⟨_, h⟩
    · have e := Nat.eq_of_beq_eq_true hb
      subst e
      obtain ⟨hst, h⟩ := mN_ok h
      subst hst
      obtain ⟨a2, n2, h⟩ := gI_ok h
      obtain ⟨a3, n3, h⟩ := gI_ok h
      obtain ⟨a4, n4, h⟩ := gI_ok h
      obtain ⟨n5, h⟩ := gD_ok h
      obtain ⟨n6, h⟩ := gD_ok h
      refine at_leaf (ls2 := [(109, .ref r0), (0, .int x1), (0, .int a2), (0, .int a3), (0, .int a4), (0, dV), (0, dV)]) h3.1 ⟨Or.inr ⟨_, (h3.2 0 rfl).trans rfl⟩, Or.inr ⟨_, (h3.2 1 rfl).trans rfl⟩, Or.inr n2, Or.inr n3, Or.inr n4, Or.inl ⟨rfl, n5⟩, Or.inl ⟨rfl, n6⟩, trivial⟩ ?_
      exact s_Texts_busiest_7 hcs r0 x1 a2 a3 a4 t0 q0 _ _ _ h hq
    cases h
  · intro v I2 _ h
    split at h
    · cases h; exact q0 _ _ hq
    · cases h
theorem w_Texts_busiest {d : Nat} (hcs : AllS L X d (cs_Texts_busiest F_Texts_holds)) : Snd L X (d + 1) 152 2 (W_Texts_busiest F_Texts_busiest) := by
  refine ⟨_, z_Texts_busiest, rfl, fun β args k I r hty hlen h => ?_⟩
  unfold W_Texts_busiest at h
  split at h
  · rename_i t0 a0 u1 a1
    obtain ⟨hb0, h⟩ := mB_ok h
    have e0 := Nat.eq_of_beq_eq_true hb0
    have g0 : okB 109 a0 = true := e0 ▸ hty.1
    obtain ⟨v, I1, h1, h2⟩ := bn_some h
    refine ⟨gf_obj (c := 9) (by decide) g0, rfl, some (0, .int v), I1, trivial, ?_, h2⟩
    exact s_Texts_busiest_0 hcs a0 a1 g0 (Q := fun w I => w = v ∧ I = I1) (fun w I q => by obtain ⟨rfl, rfl⟩ := q; rfl) I v I1 h1 ⟨rfl, rfl⟩
  · cases h
theorem S_Texts_busiest {d : Nat} (hd : 3 ≤ d) : Snd L X d 152 2 (W_Texts_busiest F_Texts_busiest) := by
  obtain ⟨e, rfl⟩ : ∃ e, d = e + 1 := ⟨d - 1, by omega⟩
  exact w_Texts_busiest ⟨S_Texts_holds (by omega), trivial⟩
set_option maxRecDepth 100000 in
theorem z_A_least : pT[151]? = some (q_A_least, 2, 2, 1, 11) := rfl
def W_A_least (F : Int32 → M Int32) : CSem := fun _ args k => match args with
  | [(t0, .ref a0), (_, .int a1)] => mB (Nat.beq t0 111) <| bn (F a1) fun v => k (some (0, .int v))
  | _ => fl
def cs_A_least (f_Integer_bitCount : Int32 → M Int32) (f_Port_watched : M Int32) (f_Texts_busiest : Nat → Int32 → M Int32) : List (Nat × Nat × CSem) := [(53, 1, W_Integer_bitCount f_Integer_bitCount), (153, 1, W_Port_watched f_Port_watched), (152, 2, W_Texts_busiest f_Texts_busiest)]
def F_A_least (x1 : Int32) : M (Int32) :=
  (if x1 = (0 : Int32) then
    bn (F_Texts_busiest 15 (0 : Int32)) fun v1 =>
    rt v1
  else (if x1 = (1 : Int32) then
    bn (F_Texts_busiest 15 (1 : Int32)) fun v2 =>
    rt v2
  else (if x1 = (2 : Int32) then
    bn (F_Port_watched) fun v3 =>
    bn (F_Integer_bitCount v3) fun v4 =>
    rt v4
  else (if x1 = (3 : Int32) then
    bn (F_Port_watched) fun v5 =>
    rt v5
  else rt (-1 : Int32)))))
set_option maxRecDepth 4000 in
theorem e_s_A_least_0 (f_Integer_bitCount : Int32 → M Int32) (f_Port_watched : M Int32) (f_Texts_busiest : Nat → Int32 → M Int32) (x1 : Int32) : wf (β := Int32) L X q_A_least 1 (cs_A_least f_Integer_bitCount f_Port_watched f_Texts_busiest) [] [] (fun _ _ _ => fl) (fun v => match v with | some (_, .int x) => rt x | _ => fl) 30 0 [(111, .ref 0), (0, .int x1)] [] = ((if x1 = (0 : Int32) then
    bn (f_Texts_busiest 15 (0 : Int32)) fun v1 =>
    rt v1
  else (if x1 = (1 : Int32) then
    bn (f_Texts_busiest 15 (1 : Int32)) fun v2 =>
    rt v2
  else (if x1 = (2 : Int32) then
    bn (f_Port_watched) fun v3 =>
    bn (f_Integer_bitCount v3) fun v4 =>
    rt v4
  else (if x1 = (3 : Int32) then
    bn (f_Port_watched) fun v5 =>
    rt v5
  else rt (-1 : Int32)))))) := rfl
theorem s_A_least_0 {d : Nat} (hcs : AllS L X d (cs_A_least F_Integer_bitCount F_Port_watched F_Texts_busiest)) (x1 : Int32) {o : Option Value × PH} {Q : (Int32) → MI → Prop} (q0 : ∀ v I, Q v I → o = (some (.int v), HH I)) (I : MI) (r : Int32) (I1 : MI) (h : F_A_least x1 I = some (r, I1)) (hq : Q r I1) : At L X (d + 1) 151 0 [(111, .ref 0), (0, .int x1)] [] I o := by
  refine wf_ok z_A_least hcs ?_ ?_ _ _ _ _ _ ⟨rfl, trivial, trivial⟩ trivial (unm_refl _ _) ((congrFun (e_s_A_least_0 (L := L) (X := X) F_Integer_bitCount F_Port_watched F_Texts_busiest x1) I).trans h)
  · intro pc ls st I2 h1 h2 h3 h
    cases h
  · intro v I2 _ h
    split at h
    · cases h; exact q0 _ _ hq
    · cases h
theorem w_A_least {d : Nat} (hcs : AllS L X d (cs_A_least F_Integer_bitCount F_Port_watched F_Texts_busiest)) : Snd L X (d + 1) 151 2 (W_A_least F_A_least) := by
  refine ⟨_, z_A_least, rfl, fun β args k I r hty hlen h => ?_⟩
  unfold W_A_least at h
  split at h
  · rename_i t0 a0 u1 a1
    obtain ⟨hb0, h⟩ := mB_ok h
    have e0 := Nat.eq_of_beq_eq_true hb0
    have g0 : okB 111 a0 = true := e0 ▸ hty.1
    have e20 := one_111 g0
    subst e20
    obtain ⟨v, I1, h1, h2⟩ := bn_some h
    refine ⟨gf_obj (c := 11) (by decide) g0, rfl, some (0, .int v), I1, trivial, ?_, h2⟩
    exact s_A_least_0 hcs a1  (Q := fun w I => w = v ∧ I = I1) (fun w I q => by obtain ⟨rfl, rfl⟩ := q; rfl) I v I1 h1 ⟨rfl, rfl⟩
  · cases h
theorem S_A_least {d : Nat} (hd : 4 ≤ d) : Snd L X d 151 2 (W_A_least F_A_least) := by
  obtain ⟨e, rfl⟩ : ∃ e, d = e + 1 := ⟨d - 1, by omega⟩
  exact w_A_least ⟨S_Integer_bitCount (by omega), S_Port_watched (by omega), S_Texts_busiest (by omega), trivial⟩
set_option maxRecDepth 100000 in
theorem z_A_letter : pT[157]? = some (q_A_letter, 3, 4, 1, 11) := rfl
def W_A_letter (F : Int32 → Int32 → M Int32) : CSem := fun _ args k => match args with
  | [(t0, .ref a0), (_, .int a1), (_, .int a2)] => mB (Nat.beq t0 111) <| bn (F a1 a2) fun v => k (some (0, .int v))
  | _ => fl
def cs_A_letter (f_A_within : Int32 → Int32 → Int32 → M Int32) (f_Table_put : Nat → Int32 → Int32 → Int32 → M Int32) (f_Table_wipe : Nat → M Int32) : List (Nat × Nat × CSem) := [(18, 3, W_A_within f_A_within), (106, 4, W_Table_put f_Table_put), (77, 1, W_Table_wipe f_Table_wipe)]
def F_A_letter (x1 : Int32) (x2 : Int32) : M (Int32) :=
  bn (F_A_within x1 (0 : Int32) (1 : Int32)) fun v1 =>
  (if v1 = 0 then
    rt (-1 : Int32)
  else
    (if x1 = 0 then
      (if x2 = (-1 : Int32) then
        bn (F_Table_wipe 35) fun v7 =>
        rt v7
      else
        bn (F_A_within x2 (0 : Int32) (25 : Int32)) fun v5 =>
        (if v5 = 0 then
          rt (-1 : Int32)
        else
          bn (F_Table_put 35 x2 (0 : Int32) (0 : Int32)) fun v6 =>
          rt v6))
    else
      (if x2 = (-1 : Int32) then
        bn (F_Table_wipe 37) fun v4 =>
        rt v4
      else
        bn (F_A_within x2 (0 : Int32) (25 : Int32)) fun v2 =>
        (if v2 = 0 then
          rt (-1 : Int32)
        else
          bn (F_Table_put 37 x2 (0 : Int32) (0 : Int32)) fun v3 =>
          rt v3))))
set_option maxRecDepth 4000 in
theorem e_s_A_letter_0 (f_A_within : Int32 → Int32 → Int32 → M Int32) (f_Table_put : Nat → Int32 → Int32 → Int32 → M Int32) (f_Table_wipe : Nat → M Int32) (x1 : Int32) (x2 : Int32) : wf (β := Int32) L X q_A_letter 1 (cs_A_letter f_A_within f_Table_put f_Table_wipe) [3] [] (fun _ _ _ => fl) (fun v => match v with | some (_, .int x) => rt x | _ => fl) 41 0 [(111, .ref 0), (0, .int x1), (0, .int x2), (0, dV)] [] = (bn (f_A_within x1 (0 : Int32) (1 : Int32)) fun v1 =>
  (if v1 = 0 then
    rt (-1 : Int32)
  else
    (if x1 = 0 then
      (if x2 = (-1 : Int32) then
        bn (f_Table_wipe 35) fun v7 =>
        rt v7
      else
        bn (f_A_within x2 (0 : Int32) (25 : Int32)) fun v5 =>
        (if v5 = 0 then
          rt (-1 : Int32)
        else
          bn (f_Table_put 35 x2 (0 : Int32) (0 : Int32)) fun v6 =>
          rt v6))
    else
      (if x2 = (-1 : Int32) then
        bn (f_Table_wipe 37) fun v4 =>
        rt v4
      else
        bn (f_A_within x2 (0 : Int32) (25 : Int32)) fun v2 =>
        (if v2 = 0 then
          rt (-1 : Int32)
        else
          bn (f_Table_put 37 x2 (0 : Int32) (0 : Int32)) fun v3 =>
          rt v3))))) := rfl
theorem s_A_letter_0 {d : Nat} (hcs : AllS L X d (cs_A_letter F_A_within F_Table_put F_Table_wipe)) (x1 : Int32) (x2 : Int32) {o : Option Value × PH} {Q : (Int32) → MI → Prop} (q0 : ∀ v I, Q v I → o = (some (.int v), HH I)) (I : MI) (r : Int32) (I1 : MI) (h : F_A_letter x1 x2 I = some (r, I1)) (hq : Q r I1) : At L X (d + 1) 157 0 [(111, .ref 0), (0, .int x1), (0, .int x2), (0, dV)] [] I o := by
  refine wf_ok z_A_letter hcs ?_ ?_ _ _ _ _ _ ⟨rfl, trivial, trivial, trivial, trivial⟩ trivial (unm_refl _ _) ((congrFun (e_s_A_letter_0 (L := L) (X := X) F_A_within F_Table_put F_Table_wipe x1 x2) I).trans h)
  · intro pc ls st I2 h1 h2 h3 h
    cases h
  · intro v I2 _ h
    split at h
    · cases h; exact q0 _ _ hq
    · cases h
theorem w_A_letter {d : Nat} (hcs : AllS L X d (cs_A_letter F_A_within F_Table_put F_Table_wipe)) : Snd L X (d + 1) 157 3 (W_A_letter F_A_letter) := by
  refine ⟨_, z_A_letter, rfl, fun β args k I r hty hlen h => ?_⟩
  unfold W_A_letter at h
  split at h
  · rename_i t0 a0 u1 a1 u2 a2
    obtain ⟨hb0, h⟩ := mB_ok h
    have e0 := Nat.eq_of_beq_eq_true hb0
    have g0 : okB 111 a0 = true := e0 ▸ hty.1
    have e20 := one_111 g0
    subst e20
    obtain ⟨v, I1, h1, h2⟩ := bn_some h
    refine ⟨gf_obj (c := 11) (by decide) g0, rfl, some (0, .int v), I1, trivial, ?_, h2⟩
    exact s_A_letter_0 hcs a1 a2  (Q := fun w I => w = v ∧ I = I1) (fun w I q => by obtain ⟨rfl, rfl⟩ := q; rfl) I v I1 h1 ⟨rfl, rfl⟩
  · cases h
theorem S_A_letter {d : Nat} (hd : 4 ≤ d) : Snd L X d 157 3 (W_A_letter F_A_letter) := by
  obtain ⟨e, rfl⟩ : ∃ e, d = e + 1 := ⟨d - 1, by omega⟩
  exact w_A_letter ⟨S_A_within (by omega), S_Table_put (by omega), S_Table_wipe (by omega), trivial⟩
set_option maxRecDepth 100000 in
theorem z_A_loan : pT[177]? = some (q_A_loan, 4, 5, 1, 11) := rfl
def W_A_loan (F : Int32 → Int32 → Int32 → M Int32) : CSem := fun _ args k => match args with
  | [(t0, .ref a0), (_, .int a1), (_, .int a2), (_, .int a3)] => mB (Nat.beq t0 111) <| bn (F a1 a2 a3) fun v => k (some (0, .int v))
  | _ => fl
def cs_A_loan (f_A_within : Int32 → Int32 → Int32 → M Int32) (f_Table_put : Nat → Int32 → Int32 → Int32 → M Int32) (f_Table_wipe : Nat → M Int32) : List (Nat × Nat × CSem) := [(18, 3, W_A_within f_A_within), (106, 4, W_Table_put f_Table_put), (77, 1, W_Table_wipe f_Table_wipe)]
def K_A_loan_53 (x1 : Int32) (x2 : Int32) (x3 : Int32) : M (Int32) :=
  (if (0 : Int32) = 0 then
    rt (-1 : Int32)
  else
    bn (F_Table_put 45 x1 x2 x3) fun v1 =>
    rt v1)
set_option maxRecDepth 4000 in
theorem e_s_A_loan_53 (f_A_within : Int32 → Int32 → Int32 → M Int32) (f_Table_put : Nat → Int32 → Int32 → Int32 → M Int32) (f_Table_wipe : Nat → M Int32) (x1 : Int32) (x2 : Int32) (x3 : Int32) : wf (β := Int32) L X q_A_loan 1 (cs_A_loan f_A_within f_Table_put f_Table_wipe) [4] [53] (fun _ _ _ => fl) (fun v => match v with | some (_, .int x) => rt x | _ => fl) 47 53 [(111, .ref 0), (0, .int x1), (0, .int x2), (0, .int x3), (0, dV)] [] = ((if (0 : Int32) = 0 then
    rt (-1 : Int32)
  else
    bn (f_Table_put 45 x1 x2 x3) fun v1 =>
    rt v1)) := rfl
theorem s_A_loan_53 {d : Nat} (hcs : AllS L X d (cs_A_loan F_A_within F_Table_put F_Table_wipe)) (x1 : Int32) (x2 : Int32) (x3 : Int32) {o : Option Value × PH} {Q : (Int32) → MI → Prop} (q0 : ∀ v I, Q v I → o = (some (.int v), HH I)) (I : MI) (r : Int32) (I1 : MI) (h : K_A_loan_53 x1 x2 x3 I = some (r, I1)) (hq : Q r I1) : At L X (d + 1) 177 53 [(111, .ref 0), (0, .int x1), (0, .int x2), (0, .int x3), (0, dV)] [] I o := by
  refine wf_ok z_A_loan hcs ?_ ?_ _ _ _ _ _ ⟨rfl, trivial, trivial, trivial, trivial, trivial⟩ trivial (unm_refl _ _) ((congrFun (e_s_A_loan_53 (L := L) (X := X) F_A_within F_Table_put F_Table_wipe x1 x2 x3) I).trans h)
  · intro pc ls st I2 h1 h2 h3 h
    cases h
  · intro v I2 _ h
    split at h
    · cases h; exact q0 _ _ hq
    · cases h
def F_A_loan (x1 : Int32) (x2 : Int32) (x3 : Int32) : M (Int32) :=
  (if x1 = (-1 : Int32) then
    bn (F_Table_wipe 45) fun v5 =>
    rt v5
  else
    bn (F_A_within x1 (0 : Int32) (5 : Int32)) fun v1 =>
    (if v1 = 0 then
      K_A_loan_53 x1 x2 x3
    else
      bn (F_A_within x2 (0 : Int32) (5 : Int32)) fun v2 =>
      (if v2 = 0 then
        K_A_loan_53 x1 x2 x3
      else
        (if x1 = x2 then
          K_A_loan_53 x1 x2 x3
        else
          bn (F_A_within x3 (1 : Int32) (99 : Int32)) fun v3 =>
          (if v3 = 0 then
            K_A_loan_53 x1 x2 x3
          else
            (if (1 : Int32) = 0 then
              rt (-1 : Int32)
            else
              bn (F_Table_put 45 x1 x2 x3) fun v4 =>
              rt v4))))))
set_option maxRecDepth 4000 in
theorem e_s_A_loan_0 (f_A_within : Int32 → Int32 → Int32 → M Int32) (f_Table_put : Nat → Int32 → Int32 → Int32 → M Int32) (f_Table_wipe : Nat → M Int32) (k_53 : Int32 → Int32 → Int32 → M (Int32)) (x1 : Int32) (x2 : Int32) (x3 : Int32) : wf (β := Int32) L X q_A_loan 1 (cs_A_loan f_A_within f_Table_put f_Table_wipe) [4] [53] (fun pc ls st => mC (Nat.beq pc 53) (mN st <| gD ls 4 <| k_53 x1 x2 x3) (fl)) (fun v => match v with | some (_, .int x) => rt x | _ => fl) 47 0 [(111, .ref 0), (0, .int x1), (0, .int x2), (0, .int x3), (0, dV)] [] = ((if x1 = (-1 : Int32) then
    bn (f_Table_wipe 45) fun v5 =>
    rt v5
  else
    bn (f_A_within x1 (0 : Int32) (5 : Int32)) fun v1 =>
    (if v1 = 0 then
      k_53 x1 x2 x3
    else
      bn (f_A_within x2 (0 : Int32) (5 : Int32)) fun v2 =>
      (if v2 = 0 then
        k_53 x1 x2 x3
      else
        (if x1 = x2 then
          k_53 x1 x2 x3
        else
          bn (f_A_within x3 (1 : Int32) (99 : Int32)) fun v3 =>
          (if v3 = 0 then
            k_53 x1 x2 x3
          else
            (if (1 : Int32) = 0 then
              rt (-1 : Int32)
            else
              bn (f_Table_put 45 x1 x2 x3) fun v4 =>
              rt v4))))))) := rfl
theorem s_A_loan_0 {d : Nat} (hcs : AllS L X d (cs_A_loan F_A_within F_Table_put F_Table_wipe)) (x1 : Int32) (x2 : Int32) (x3 : Int32) {o : Option Value × PH} {Q : (Int32) → MI → Prop} (q0 : ∀ v I, Q v I → o = (some (.int v), HH I)) (I : MI) (r : Int32) (I1 : MI) (h : F_A_loan x1 x2 x3 I = some (r, I1)) (hq : Q r I1) : At L X (d + 1) 177 0 [(111, .ref 0), (0, .int x1), (0, .int x2), (0, .int x3), (0, dV)] [] I o := by
  refine wf_ok z_A_loan hcs ?_ ?_ _ _ _ _ _ ⟨rfl, trivial, trivial, trivial, trivial, trivial⟩ trivial (unm_refl _ _) ((congrFun (e_s_A_loan_0 (L := L) (X := X) F_A_within F_Table_put F_Table_wipe K_A_loan_53 x1 x2 x3) I).trans h)
  · intro pc ls st I2 h1 h2 h3 h
    rcases mC_ok h with ⟨hb, h⟩ | ⟨_, h⟩
    · have e := Nat.eq_of_beq_eq_true hb
      subst e
      obtain ⟨hst, h⟩ := mN_ok h
      subst hst
      obtain ⟨n4, h⟩ := gD_ok h
      refine at_leaf (ls2 := [(111, .ref 0), (0, .int x1), (0, .int x2), (0, .int x3), (0, dV)]) h3.1 ⟨Or.inr ⟨_, (h3.2 0 rfl).trans rfl⟩, Or.inr ⟨_, (h3.2 1 rfl).trans rfl⟩, Or.inr ⟨_, (h3.2 2 rfl).trans rfl⟩, Or.inr ⟨_, (h3.2 3 rfl).trans rfl⟩, Or.inl ⟨rfl, n4⟩, trivial⟩ ?_
      exact s_A_loan_53 hcs x1 x2 x3 q0 _ _ _ h hq
    cases h
  · intro v I2 _ h
    split at h
    · cases h; exact q0 _ _ hq
    · cases h
theorem w_A_loan {d : Nat} (hcs : AllS L X d (cs_A_loan F_A_within F_Table_put F_Table_wipe)) : Snd L X (d + 1) 177 4 (W_A_loan F_A_loan) := by
  refine ⟨_, z_A_loan, rfl, fun β args k I r hty hlen h => ?_⟩
  unfold W_A_loan at h
  split at h
  · rename_i t0 a0 u1 a1 u2 a2 u3 a3
    obtain ⟨hb0, h⟩ := mB_ok h
    have e0 := Nat.eq_of_beq_eq_true hb0
    have g0 : okB 111 a0 = true := e0 ▸ hty.1
    have e20 := one_111 g0
    subst e20
    obtain ⟨v, I1, h1, h2⟩ := bn_some h
    refine ⟨gf_obj (c := 11) (by decide) g0, rfl, some (0, .int v), I1, trivial, ?_, h2⟩
    exact s_A_loan_0 hcs a1 a2 a3  (Q := fun w I => w = v ∧ I = I1) (fun w I q => by obtain ⟨rfl, rfl⟩ := q; rfl) I v I1 h1 ⟨rfl, rfl⟩
  · cases h
theorem S_A_loan {d : Nat} (hd : 4 ≤ d) : Snd L X d 177 4 (W_A_loan F_A_loan) := by
  obtain ⟨e, rfl⟩ : ∃ e, d = e + 1 := ⟨d - 1, by omega⟩
  exact w_A_loan ⟨S_A_within (by omega), S_Table_put (by omega), S_Table_wipe (by omega), trivial⟩
set_option maxRecDepth 100000 in
theorem z_World_struckOnes : pT[190]? = some (q_World_struckOnes, 1, 3, 1, 10) := rfl
def W_World_struckOnes (F : Nat → M Int32) : CSem := fun _ args k => match args with
  | [(t0, .ref a0)] => mB (Nat.beq t0 110) <| bn (F a0) fun v => k (some (0, .int v))
  | _ => fl
def cs_World_struckOnes : List (Nat × Nat × CSem) := []
def B_World_struckOnes_4 (r0 : Nat) (y : Int32 × Int32) : M ((Int32 × Int32) ⊕ (Int32)) :=
  bn (rd r0 8) fun v1 =>
  (if y.2 < v1 then
    bn (ld 18 (r0 + 10) y.2) fun v2 =>
    (if v2 = 0 then
      rt (.inl (y.1, (y.2 + (1 : Int32))))
    else
      rt (.inl ((y.1 ||| ((1 : Int32) <<< (y.2 &&& 31))), (y.2 + (1 : Int32)))))
  else
    rt (.inr y.1))
set_option maxRecDepth 4000 in
theorem e_b_World_struckOnes_4 (r0 : Nat) (y : Int32 × Int32) : wf (β := (Int32 × Int32) ⊕ (Int32)) L X q_World_struckOnes 1 cs_World_struckOnes [1, 2] [4] (fun pc ls st => mC (Nat.beq pc 4) (mN st <| gI ls 1 fun a1 => gI ls 2 fun a2 => rt (.inl (a1, a2))) (fl)) (fun v => match v with | some (_, .int x) => rt (.inr x) | _ => fl) 28 4 [(110, .ref r0), (0, .int y.1), (0, .int y.2)] [] = (bn (rd r0 8) fun v1 =>
  (if y.2 < v1 then
    bn (ld 18 (r0 + 10) y.2) fun v2 =>
    (if v2 = 0 then
      rt (.inl (y.1, (y.2 + (1 : Int32))))
    else
      rt (.inl ((y.1 ||| ((1 : Int32) <<< (y.2 &&& 31))), (y.2 + (1 : Int32)))))
  else
    rt (.inr y.1))) := rfl
theorem b_World_struckOnes_4 {d : Nat} (hcs : AllS L X d cs_World_struckOnes) (r0 : Nat) (t0 : okB 110 r0 = true) {o : Option Value × PH} {Q : ((Int32 × Int32) ⊕ (Int32)) → MI → Prop} (qb : ∀ y I, Q (.inl y) I → At L X (d + 1) 190 4 [(110, .ref r0), (0, .int y.1), (0, .int y.2)] [] I o) (qr : ∀ v I, Q (.inr v) I → o = (some (.int v), HH I)) (y : Int32 × Int32) (I : MI) (r : (Int32 × Int32) ⊕ (Int32)) (I1 : MI) (h : B_World_struckOnes_4 r0 y I = some (r, I1)) (hq : Q r I1) : At L X (d + 1) 190 4 [(110, .ref r0), (0, .int y.1), (0, .int y.2)] [] I o := by
  refine wf_ok z_World_struckOnes hcs ?_ ?_ _ _ _ _ _ ⟨t0, trivial, trivial, trivial⟩ trivial (unm_refl _ _) ((congrFun (e_b_World_struckOnes_4 (L := L) (X := X) r0 y) I).trans h)
  · intro pc ls st I2 h1 h2 h3 h
    rcases mC_ok h with ⟨hb, h⟩ | ⟨_, h⟩
    · have e := Nat.eq_of_beq_eq_true hb
      subst e
      obtain ⟨hst, h⟩ := mN_ok h
      subst hst
      obtain ⟨a1, n1, h⟩ := gI_ok h
      obtain ⟨a2, n2, h⟩ := gI_ok h
      refine at_leaf (ls2 := [(110, .ref r0), (0, .int a1), (0, .int a2)]) h3.1 ⟨Or.inr ⟨_, (h3.2 0 rfl).trans rfl⟩, Or.inr n1, Or.inr n2, trivial⟩ ?_
      cases h; exact qb _ _ hq
    cases h
  · intro v I2 _ h
    split at h
    · cases h; exact qr _ _ hq
    · cases h
def K_World_struckOnes_4 (r0 : Nat) (x1 : Int32) (x2 : Int32) : M (Int32) :=
  lp (B_World_struckOnes_4 r0) FU (x1, x2)
theorem s_World_struckOnes_4 {d : Nat} (hcs : AllS L X d cs_World_struckOnes) (r0 : Nat) (x1 : Int32) (x2 : Int32) (t0 : okB 110 r0 = true) {o : Option Value × PH} {Q : (Int32) → MI → Prop} (q0 : ∀ v I, Q v I → o = (some (.int v), HH I)) (I : MI) (r : Int32) (I1 : MI) (h : K_World_struckOnes_4 r0 x1 x2 I = some (r, I1)) (hq : Q r I1) : At L X (d + 1) 190 4 [(110, .ref r0), (0, .int x1), (0, .int x2)] [] I o := by
  unfold K_World_struckOnes_4 at h
  have w0 := fun w => at_lp (body := B_World_struckOnes_4 r0) (P := (fun (y : Int32 × Int32) I => At L X (d + 1) 190 4 [(110, .ref r0), (0, .int y.1), (0, .int y.2)] [] I o)) (Q := (fun (e : Int32) I => Q e I)) w FU (x1, x2) I r I1 h hq
  refine w0 ?_
  intro y I r I1 h hq
  exact b_World_struckOnes_4 hcs r0 t0 (Q := SQ (fun (y : Int32 × Int32) I => At L X (d + 1) 190 4 [(110, .ref r0), (0, .int y.1), (0, .int y.2)] [] I o) (fun (e : Int32) I => Q e I)) (fun _ _ w => w) q0 y I r I1 h hq
def F_World_struckOnes (r0 : Nat) : M (Int32) :=
  K_World_struckOnes_4 r0 (0 : Int32) (0 : Int32)
set_option maxRecDepth 4000 in
theorem e_s_World_struckOnes_0 (k_4 : Nat → Int32 → Int32 → M (Int32)) (r0 : Nat) : wf (β := Int32) L X q_World_struckOnes 1 cs_World_struckOnes [1, 2] [4] (fun pc ls st => mC (Nat.beq pc 4) (mN st <| gI ls 1 fun a1 => gI ls 2 fun a2 => k_4 r0 a1 a2) (fl)) (fun v => match v with | some (_, .int x) => rt x | _ => fl) 28 0 [(110, .ref r0), (0, dV), (0, dV)] [] = (k_4 r0 (0 : Int32) (0 : Int32)) := rfl
theorem s_World_struckOnes_0 {d : Nat} (hcs : AllS L X d cs_World_struckOnes) (r0 : Nat) (t0 : okB 110 r0 = true) {o : Option Value × PH} {Q : (Int32) → MI → Prop} (q0 : ∀ v I, Q v I → o = (some (.int v), HH I)) (I : MI) (r : Int32) (I1 : MI) (h : F_World_struckOnes r0 I = some (r, I1)) (hq : Q r I1) : At L X (d + 1) 190 0 [(110, .ref r0), (0, dV), (0, dV)] [] I o := by
  refine wf_ok z_World_struckOnes hcs ?_ ?_ _ _ _ _ _ ⟨t0, trivial, trivial, trivial⟩ trivial (unm_refl _ _) ((congrFun (e_s_World_struckOnes_0 (L := L) (X := X) K_World_struckOnes_4 r0) I).trans h)
  · intro pc ls st I2 h1 h2 h3 h
    rcases mC_ok h with ⟨hb, h⟩ | ⟨_, h⟩
    · have e := Nat.eq_of_beq_eq_true hb
      subst e
      obtain ⟨hst, h⟩ := mN_ok h
      subst hst
      obtain ⟨a1, n1, h⟩ := gI_ok h
      obtain ⟨a2, n2, h⟩ := gI_ok h
      refine at_leaf (ls2 := [(110, .ref r0), (0, .int a1), (0, .int a2)]) h3.1 ⟨Or.inr ⟨_, (h3.2 0 rfl).trans rfl⟩, Or.inr n1, Or.inr n2, trivial⟩ ?_
      exact s_World_struckOnes_4 hcs r0 a1 a2 t0 q0 _ _ _ h hq
    cases h
  · intro v I2 _ h
    split at h
    · cases h; exact q0 _ _ hq
    · cases h
theorem w_World_struckOnes {d : Nat} (hcs : AllS L X d cs_World_struckOnes) : Snd L X (d + 1) 190 1 (W_World_struckOnes F_World_struckOnes) := by
  refine ⟨_, z_World_struckOnes, rfl, fun β args k I r hty hlen h => ?_⟩
  unfold W_World_struckOnes at h
  split at h
  · rename_i t0 a0
    obtain ⟨hb0, h⟩ := mB_ok h
    have e0 := Nat.eq_of_beq_eq_true hb0
    have g0 : okB 110 a0 = true := e0 ▸ hty.1
    obtain ⟨v, I1, h1, h2⟩ := bn_some h
    refine ⟨gf_obj (c := 10) (by decide) g0, rfl, some (0, .int v), I1, trivial, ?_, h2⟩
    exact s_World_struckOnes_0 hcs a0 g0 (Q := fun w I => w = v ∧ I = I1) (fun w I q => by obtain ⟨rfl, rfl⟩ := q; rfl) I v I1 h1 ⟨rfl, rfl⟩
  · cases h
theorem S_World_struckOnes {d : Nat} (hd : 1 ≤ d) : Snd L X d 190 1 (W_World_struckOnes F_World_struckOnes) := by
  obtain ⟨e, rfl⟩ : ∃ e, d = e + 1 := ⟨d - 1, by omega⟩
  exact w_World_struckOnes trivial
set_option maxRecDepth 100000 in
theorem z_A_look : pT[189]? = some (q_A_look, 2, 3, 1, 11) := rfl
def W_A_look (F : Int32 → M Int32) : CSem := fun _ args k => match args with
  | [(t0, .ref a0), (_, .int a1)] => mB (Nat.beq t0 111) <| bn (F a1) fun v => k (some (0, .int v))
  | _ => fl
def cs_A_look (f_World_struckOnes : Nat → M Int32) : List (Nat × Nat × CSem) := [(190, 1, W_World_struckOnes f_World_struckOnes)]
def F_A_look (x1 : Int32) : M (Int32) :=
  (if x1 = (0 : Int32) then
    bn (rd 2 7) fun v1 =>
    rt v1
  else (if x1 = (1 : Int32) then
    bn (rd 2 8) fun v2 =>
    rt v2
  else (if x1 = (2 : Int32) then
    bn (rd 2 1) fun v3 =>
    rt v3
  else (if x1 = (3 : Int32) then
    bn (rd 2 2) fun v4 =>
    rt v4
  else (if x1 = (4 : Int32) then
    bn (rd 2 3) fun v5 =>
    rt v5
  else (if x1 = (5 : Int32) then
    bn (rd 2 4) fun v6 =>
    rt v6
  else (if x1 = (6 : Int32) then
    bn (rd 2 5) fun v7 =>
    rt v7
  else (if x1 = (7 : Int32) then
    bn (F_World_struckOnes 2) fun v8 =>
    rt v8
  else (if x1 = (8 : Int32) then
    bn (rd 2 6) fun v9 =>
    rt v9
  else (if x1 = (9 : Int32) then
    bn (rd 2 0) fun v10 =>
    rt v10
  else (if x1 = (10 : Int32) then
    bn (rd 17 3) fun v11 =>
    rt v11
  else (if x1 = (11 : Int32) then
    bn (rd 21 3) fun v12 =>
    rt v12
  else (if x1 = (12 : Int32) then
    bn (rd 23 3) fun v13 =>
    rt v13
  else (if x1 = (13 : Int32) then
    bn (rd 25 3) fun v14 =>
    rt v14
  else (if x1 = (14 : Int32) then
    bn (rd 0 9) fun v15 =>
    rt v15
  else rt (-1 : Int32))))))))))))))))
set_option maxRecDepth 4000 in
theorem e_s_A_look_0 (f_World_struckOnes : Nat → M Int32) (x1 : Int32) : wf (β := Int32) L X q_A_look 1 (cs_A_look f_World_struckOnes) [2] [] (fun _ _ _ => fl) (fun v => match v with | some (_, .int x) => rt x | _ => fl) 71 0 [(111, .ref 0), (0, .int x1), (0, dV)] [] = ((if x1 = (0 : Int32) then
    bn (rd 2 7) fun v1 =>
    rt v1
  else (if x1 = (1 : Int32) then
    bn (rd 2 8) fun v2 =>
    rt v2
  else (if x1 = (2 : Int32) then
    bn (rd 2 1) fun v3 =>
    rt v3
  else (if x1 = (3 : Int32) then
    bn (rd 2 2) fun v4 =>
    rt v4
  else (if x1 = (4 : Int32) then
    bn (rd 2 3) fun v5 =>
    rt v5
  else (if x1 = (5 : Int32) then
    bn (rd 2 4) fun v6 =>
    rt v6
  else (if x1 = (6 : Int32) then
    bn (rd 2 5) fun v7 =>
    rt v7
  else (if x1 = (7 : Int32) then
    bn (f_World_struckOnes 2) fun v8 =>
    rt v8
  else (if x1 = (8 : Int32) then
    bn (rd 2 6) fun v9 =>
    rt v9
  else (if x1 = (9 : Int32) then
    bn (rd 2 0) fun v10 =>
    rt v10
  else (if x1 = (10 : Int32) then
    bn (rd 17 3) fun v11 =>
    rt v11
  else (if x1 = (11 : Int32) then
    bn (rd 21 3) fun v12 =>
    rt v12
  else (if x1 = (12 : Int32) then
    bn (rd 23 3) fun v13 =>
    rt v13
  else (if x1 = (13 : Int32) then
    bn (rd 25 3) fun v14 =>
    rt v14
  else (if x1 = (14 : Int32) then
    bn (rd 0 9) fun v15 =>
    rt v15
  else rt (-1 : Int32))))))))))))))))) := rfl
theorem s_A_look_0 {d : Nat} (hcs : AllS L X d (cs_A_look F_World_struckOnes)) (x1 : Int32) {o : Option Value × PH} {Q : (Int32) → MI → Prop} (q0 : ∀ v I, Q v I → o = (some (.int v), HH I)) (I : MI) (r : Int32) (I1 : MI) (h : F_A_look x1 I = some (r, I1)) (hq : Q r I1) : At L X (d + 1) 189 0 [(111, .ref 0), (0, .int x1), (0, dV)] [] I o := by
  refine wf_ok z_A_look hcs ?_ ?_ _ _ _ _ _ ⟨rfl, trivial, trivial, trivial⟩ trivial (unm_refl _ _) ((congrFun (e_s_A_look_0 (L := L) (X := X) F_World_struckOnes x1) I).trans h)
  · intro pc ls st I2 h1 h2 h3 h
    cases h
  · intro v I2 _ h
    split at h
    · cases h; exact q0 _ _ hq
    · cases h
theorem w_A_look {d : Nat} (hcs : AllS L X d (cs_A_look F_World_struckOnes)) : Snd L X (d + 1) 189 2 (W_A_look F_A_look) := by
  refine ⟨_, z_A_look, rfl, fun β args k I r hty hlen h => ?_⟩
  unfold W_A_look at h
  split at h
  · rename_i t0 a0 u1 a1
    obtain ⟨hb0, h⟩ := mB_ok h
    have e0 := Nat.eq_of_beq_eq_true hb0
    have g0 : okB 111 a0 = true := e0 ▸ hty.1
    have e20 := one_111 g0
    subst e20
    obtain ⟨v, I1, h1, h2⟩ := bn_some h
    refine ⟨gf_obj (c := 11) (by decide) g0, rfl, some (0, .int v), I1, trivial, ?_, h2⟩
    exact s_A_look_0 hcs a1  (Q := fun w I => w = v ∧ I = I1) (fun w I q => by obtain ⟨rfl, rfl⟩ := q; rfl) I v I1 h1 ⟨rfl, rfl⟩
  · cases h
theorem S_A_look {d : Nat} (hd : 2 ≤ d) : Snd L X d 189 2 (W_A_look F_A_look) := by
  obtain ⟨e, rfl⟩ : ∃ e, d = e + 1 := ⟨d - 1, by omega⟩
  exact w_A_look ⟨S_World_struckOnes (by omega), trivial⟩
set_option maxRecDepth 100000 in
theorem z_Riddles_choices : pT[173]? = some (q_Riddles_choices, 2, 4, 1, 99) := rfl
def W_Riddles_choices (F : Int32 → Int32 → M Int32) : CSem := fun _ args k => match args with
  | [(_, .int a0), (_, .int a1)] => bn (F a0 a1) fun v => k (some (0, .int v))
  | _ => fl
def cs_Riddles_choices : List (Nat × Nat × CSem) := []
def B_Riddles_choices_4 (x0 : Int32) (x1 : Int32) (y : Int32 × Int32) : M ((Int32 × Int32) ⊕ (Int32)) :=
  (if x1 < y.2 then
    rt (.inr y.1)
  else
    dvI y.2 <|
    rt (.inl (((y.1 * ((x0 - x1) + y.2)) / y.2), (y.2 + (1 : Int32)))))
set_option maxRecDepth 4000 in
theorem e_b_Riddles_choices_4 (x0 : Int32) (x1 : Int32) (y : Int32 × Int32) : wf (β := (Int32 × Int32) ⊕ (Int32)) L X q_Riddles_choices 1 cs_Riddles_choices [2, 3] [4] (fun pc ls st => mC (Nat.beq pc 4) (mN st <| gI ls 2 fun a2 => gI ls 3 fun a3 => rt (.inl (a2, a3))) (fl)) (fun v => match v with | some (_, .int x) => rt (.inr x) | _ => fl) 26 4 [(0, .int x0), (0, .int x1), (0, .int y.1), (0, .int y.2)] [] = ((if x1 < y.2 then
    rt (.inr y.1)
  else
    dvI y.2 <|
    rt (.inl (((y.1 * ((x0 - x1) + y.2)) / y.2), (y.2 + (1 : Int32)))))) := rfl
theorem b_Riddles_choices_4 {d : Nat} (hcs : AllS L X d cs_Riddles_choices) (x0 : Int32) (x1 : Int32) {o : Option Value × PH} {Q : ((Int32 × Int32) ⊕ (Int32)) → MI → Prop} (qb : ∀ y I, Q (.inl y) I → At L X (d + 1) 173 4 [(0, .int x0), (0, .int x1), (0, .int y.1), (0, .int y.2)] [] I o) (qr : ∀ v I, Q (.inr v) I → o = (some (.int v), HH I)) (y : Int32 × Int32) (I : MI) (r : (Int32 × Int32) ⊕ (Int32)) (I1 : MI) (h : B_Riddles_choices_4 x0 x1 y I = some (r, I1)) (hq : Q r I1) : At L X (d + 1) 173 4 [(0, .int x0), (0, .int x1), (0, .int y.1), (0, .int y.2)] [] I o := by
  refine wf_ok z_Riddles_choices hcs ?_ ?_ _ _ _ _ _ ⟨trivial, trivial, trivial, trivial, trivial⟩ trivial (unm_refl _ _) ((congrFun (e_b_Riddles_choices_4 (L := L) (X := X) x0 x1 y) I).trans h)
  · intro pc ls st I2 h1 h2 h3 h
    rcases mC_ok h with ⟨hb, h⟩ | ⟨_, h⟩
    · have e := Nat.eq_of_beq_eq_true hb
      subst e
      obtain ⟨hst, h⟩ := mN_ok h
      subst hst
      obtain ⟨a2, n2, h⟩ := gI_ok h
      obtain ⟨a3, n3, h⟩ := gI_ok h
      refine at_leaf (ls2 := [(0, .int x0), (0, .int x1), (0, .int a2), (0, .int a3)]) h3.1 ⟨Or.inr ⟨_, (h3.2 0 rfl).trans rfl⟩, Or.inr ⟨_, (h3.2 1 rfl).trans rfl⟩, Or.inr n2, Or.inr n3, trivial⟩ ?_
      cases h; exact qb _ _ hq
    cases h
  · intro v I2 _ h
    split at h
    · cases h; exact qr _ _ hq
    · cases h
def K_Riddles_choices_4 (x0 : Int32) (x1 : Int32) (x2 : Int32) (x3 : Int32) : M (Int32) :=
  lp (B_Riddles_choices_4 x0 x1) FU (x2, x3)
theorem s_Riddles_choices_4 {d : Nat} (hcs : AllS L X d cs_Riddles_choices) (x0 : Int32) (x1 : Int32) (x2 : Int32) (x3 : Int32) {o : Option Value × PH} {Q : (Int32) → MI → Prop} (q0 : ∀ v I, Q v I → o = (some (.int v), HH I)) (I : MI) (r : Int32) (I1 : MI) (h : K_Riddles_choices_4 x0 x1 x2 x3 I = some (r, I1)) (hq : Q r I1) : At L X (d + 1) 173 4 [(0, .int x0), (0, .int x1), (0, .int x2), (0, .int x3)] [] I o := by
  unfold K_Riddles_choices_4 at h
  have w0 := fun w => at_lp (body := B_Riddles_choices_4 x0 x1) (P := (fun (y : Int32 × Int32) I => At L X (d + 1) 173 4 [(0, .int x0), (0, .int x1), (0, .int y.1), (0, .int y.2)] [] I o)) (Q := (fun (e : Int32) I => Q e I)) w FU (x2, x3) I r I1 h hq
  refine w0 ?_
  intro y I r I1 h hq
  exact b_Riddles_choices_4 hcs x0 x1 (Q := SQ (fun (y : Int32 × Int32) I => At L X (d + 1) 173 4 [(0, .int x0), (0, .int x1), (0, .int y.1), (0, .int y.2)] [] I o) (fun (e : Int32) I => Q e I)) (fun _ _ w => w) q0 y I r I1 h hq
def F_Riddles_choices (x0 : Int32) (x1 : Int32) : M (Int32) :=
  K_Riddles_choices_4 x0 x1 (1 : Int32) (1 : Int32)
set_option maxRecDepth 4000 in
theorem e_s_Riddles_choices_0 (k_4 : Int32 → Int32 → Int32 → Int32 → M (Int32)) (x0 : Int32) (x1 : Int32) : wf (β := Int32) L X q_Riddles_choices 1 cs_Riddles_choices [2, 3] [4] (fun pc ls st => mC (Nat.beq pc 4) (mN st <| gI ls 2 fun a2 => gI ls 3 fun a3 => k_4 x0 x1 a2 a3) (fl)) (fun v => match v with | some (_, .int x) => rt x | _ => fl) 26 0 [(0, .int x0), (0, .int x1), (0, dV), (0, dV)] [] = (k_4 x0 x1 (1 : Int32) (1 : Int32)) := rfl
theorem s_Riddles_choices_0 {d : Nat} (hcs : AllS L X d cs_Riddles_choices) (x0 : Int32) (x1 : Int32) {o : Option Value × PH} {Q : (Int32) → MI → Prop} (q0 : ∀ v I, Q v I → o = (some (.int v), HH I)) (I : MI) (r : Int32) (I1 : MI) (h : F_Riddles_choices x0 x1 I = some (r, I1)) (hq : Q r I1) : At L X (d + 1) 173 0 [(0, .int x0), (0, .int x1), (0, dV), (0, dV)] [] I o := by
  refine wf_ok z_Riddles_choices hcs ?_ ?_ _ _ _ _ _ ⟨trivial, trivial, trivial, trivial, trivial⟩ trivial (unm_refl _ _) ((congrFun (e_s_Riddles_choices_0 (L := L) (X := X) K_Riddles_choices_4 x0 x1) I).trans h)
  · intro pc ls st I2 h1 h2 h3 h
    rcases mC_ok h with ⟨hb, h⟩ | ⟨_, h⟩
    · have e := Nat.eq_of_beq_eq_true hb
      subst e
      obtain ⟨hst, h⟩ := mN_ok h
      subst hst
      obtain ⟨a2, n2, h⟩ := gI_ok h
      obtain ⟨a3, n3, h⟩ := gI_ok h
      refine at_leaf (ls2 := [(0, .int x0), (0, .int x1), (0, .int a2), (0, .int a3)]) h3.1 ⟨Or.inr ⟨_, (h3.2 0 rfl).trans rfl⟩, Or.inr ⟨_, (h3.2 1 rfl).trans rfl⟩, Or.inr n2, Or.inr n3, trivial⟩ ?_
      exact s_Riddles_choices_4 hcs x0 x1 a2 a3 q0 _ _ _ h hq
    cases h
  · intro v I2 _ h
    split at h
    · cases h; exact q0 _ _ hq
    · cases h
theorem w_Riddles_choices {d : Nat} (hcs : AllS L X d cs_Riddles_choices) : Snd L X (d + 1) 173 2 (W_Riddles_choices F_Riddles_choices) := by
  refine ⟨_, z_Riddles_choices, rfl, fun β args k I r hty hlen h => ?_⟩
  unfold W_Riddles_choices at h
  split at h
  · rename_i u0 a0 u1 a1
    obtain ⟨v, I1, h1, h2⟩ := bn_some h
    refine ⟨rfl, rfl, some (0, .int v), I1, trivial, ?_, h2⟩
    exact s_Riddles_choices_0 hcs a0 a1  (Q := fun w I => w = v ∧ I = I1) (fun w I q => by obtain ⟨rfl, rfl⟩ := q; rfl) I v I1 h1 ⟨rfl, rfl⟩
  · cases h
theorem S_Riddles_choices {d : Nat} (hd : 1 ≤ d) : Snd L X d 173 2 (W_Riddles_choices F_Riddles_choices) := by
  obtain ⟨e, rfl⟩ : ∃ e, d = e + 1 := ⟨d - 1, by omega⟩
  exact w_Riddles_choices trivial
set_option maxRecDepth 100000 in
theorem z_Riddles_rows : pT[172]? = some (q_Riddles_rows, 2, 5, 1, 6) := rfl
def W_Riddles_rows (F : Int32 → M Int32) : CSem := fun _ args k => match args with
  | [(t0, .ref a0), (_, .int a1)] => mB (Nat.beq t0 106) <| bn (F a1) fun v => k (some (0, .int v))
  | _ => fl
def cs_Riddles_rows (f_A_within : Int32 → Int32 → Int32 → M Int32) (f_Arrays_fill : Nat → Int32 → M Unit) (f_Riddles_choices : Int32 → Int32 → M Int32) (f_Table_at : Nat → Int32 → Int32 → M Int32) : List (Nat × Nat × CSem) := [(18, 3, W_A_within f_A_within), (13, 2, W_Arrays_fill f_Arrays_fill), (173, 2, W_Riddles_choices f_Riddles_choices), (36, 3, W_Table_at f_Table_at)]
def B_Riddles_rows_10 (x1 : Int32) (y : Int32) : M ((Int32) ⊕ ((Unit))) :=
  bn (rd 43 3) fun v1 =>
  (if y < v1 then
    bn (F_Table_at 43 y (0 : Int32)) fun v2 =>
    bn (F_A_within v2 (0 : Int32) (25 : Int32)) fun v3 =>
    (if v3 = 0 then
      rt (.inl (y + (1 : Int32)))
    else
      bn (ld 26 202 v2) fun v4 =>
      bn (sr 26 202 v2 (v4 + (1 : Int32))) fun _ =>
      rt (.inl (y + (1 : Int32))))
  else
    rt (.inr ()))
set_option maxRecDepth 4000 in
theorem e_b_Riddles_rows_10 (f_A_within : Int32 → Int32 → Int32 → M Int32) (f_Arrays_fill : Nat → Int32 → M Unit) (f_Riddles_choices : Int32 → Int32 → M Int32) (f_Table_at : Nat → Int32 → Int32 → M Int32) (x1 : Int32) (y : Int32) : wf (β := (Int32) ⊕ ((Unit))) L X q_Riddles_rows 1 (cs_Riddles_rows f_A_within f_Arrays_fill f_Riddles_choices f_Table_at) [2, 3] [10, 63, 80, 88, 95, 143, 149, 155] (fun pc ls st => mC (Nat.beq pc 10) (mN st <| gI ls 2 fun a2 => gD ls 3 <| gD ls 4 <| rt (.inl a2)) (mC (Nat.beq pc 63) (mN st <| gD ls 2 <| gD ls 3 <| gD ls 4 <| rt (.inr ())) (fl))) (fun _ => fl) 103 10 [(106, .ref 195), (0, .int x1), (0, .int y), (0, dV), (0, dV)] [] = (bn (rd 43 3) fun v1 =>
  (if y < v1 then
    bn (f_Table_at 43 y (0 : Int32)) fun v2 =>
    bn (f_A_within v2 (0 : Int32) (25 : Int32)) fun v3 =>
    (if v3 = 0 then
      rt (.inl (y + (1 : Int32)))
    else
      bn (ld 26 202 v2) fun v4 =>
      bn (sr 26 202 v2 (v4 + (1 : Int32))) fun _ =>
      rt (.inl (y + (1 : Int32))))
  else
    rt (.inr ()))) := rfl
theorem b_Riddles_rows_10 {d : Nat} (hcs : AllS L X d (cs_Riddles_rows F_A_within F_Arrays_fill F_Riddles_choices F_Table_at)) (x1 : Int32) {o : Option Value × PH} {Q : ((Int32) ⊕ ((Unit))) → MI → Prop} (qb : ∀ y I, Q (.inl y) I → At L X (d + 1) 172 10 [(106, .ref 195), (0, .int x1), (0, .int y), (0, dV), (0, dV)] [] I o) (qe63 : ∀ y I, Q (.inr y) I → At L X (d + 1) 172 63 [(106, .ref 195), (0, .int x1), (0, dV), (0, dV), (0, dV)] [] I o) (y : Int32) (I : MI) (r : (Int32) ⊕ ((Unit))) (I1 : MI) (h : B_Riddles_rows_10 x1 y I = some (r, I1)) (hq : Q r I1) : At L X (d + 1) 172 10 [(106, .ref 195), (0, .int x1), (0, .int y), (0, dV), (0, dV)] [] I o := by
  refine wf_ok z_Riddles_rows hcs ?_ ?_ _ _ _ _ _ ⟨rfl, trivial, trivial, trivial, trivial, trivial⟩ trivial (unm_refl _ _) ((congrFun (e_b_Riddles_rows_10 (L := L) (X := X) F_A_within F_Arrays_fill F_Riddles_choices F_Table_at x1 y) I).trans h)
  · intro pc ls st I2 h1 h2 h3 h
    rcases mC_ok h with ⟨hb, h⟩ | ⟨_, h⟩
    · have e := Nat.eq_of_beq_eq_true hb
      subst e
      obtain ⟨hst, h⟩ := mN_ok h
      subst hst
      obtain ⟨a2, n2, h⟩ := gI_ok h
      obtain ⟨n3, h⟩ := gD_ok h
      obtain ⟨n4, h⟩ := gD_ok h
      refine at_leaf (ls2 := [(106, .ref 195), (0, .int x1), (0, .int a2), (0, dV), (0, dV)]) h3.1 ⟨Or.inr ⟨_, (h3.2 0 rfl).trans rfl⟩, Or.inr ⟨_, (h3.2 1 rfl).trans rfl⟩, Or.inr n2, Or.inl ⟨rfl, n3⟩, Or.inl ⟨rfl, n4⟩, trivial⟩ ?_
      cases h; exact qb _ _ hq
    rcases mC_ok h with ⟨hb, h⟩ | ⟨_, h⟩
    · have e := Nat.eq_of_beq_eq_true hb
      subst e
      obtain ⟨hst, h⟩ := mN_ok h
      subst hst
      obtain ⟨n2, h⟩ := gD_ok h
      obtain ⟨n3, h⟩ := gD_ok h
      obtain ⟨n4, h⟩ := gD_ok h
      refine at_leaf (ls2 := [(106, .ref 195), (0, .int x1), (0, dV), (0, dV), (0, dV)]) h3.1 ⟨Or.inr ⟨_, (h3.2 0 rfl).trans rfl⟩, Or.inr ⟨_, (h3.2 1 rfl).trans rfl⟩, Or.inl ⟨rfl, n2⟩, Or.inl ⟨rfl, n3⟩, Or.inl ⟨rfl, n4⟩, trivial⟩ ?_
      cases h; exact qe63 _ _ hq
    cases h
  · intro v I2 _ h
    cases h
def B_Riddles_rows_95 (x1 : Int32) (x2 : Int32) (x3 : Int32) (y : Int32) : M ((Int32) ⊕ ((Unit))) :=
  bn (ld 26 202 x2) fun v1 =>
  (if v1 < y then
    rt (.inr ())
  else
    (if x3 < y then
      rt (.inr ())
    else
      bn (ld 6 203 x3) fun v2 =>
      bn (ld 6 203 (x3 - y)) fun v3 =>
      bn (F_Riddles_choices x3 y) fun v4 =>
      bn (sr 6 203 x3 (v2 + (v3 * v4))) fun _ =>
      rt (.inl (y + (1 : Int32)))))
set_option maxRecDepth 4000 in
theorem e_b_Riddles_rows_95 (f_A_within : Int32 → Int32 → Int32 → M Int32) (f_Arrays_fill : Nat → Int32 → M Unit) (f_Riddles_choices : Int32 → Int32 → M Int32) (f_Table_at : Nat → Int32 → Int32 → M Int32) (x1 : Int32) (x2 : Int32) (x3 : Int32) (y : Int32) : wf (β := (Int32) ⊕ ((Unit))) L X q_Riddles_rows 1 (cs_Riddles_rows f_A_within f_Arrays_fill f_Riddles_choices f_Table_at) [4] [10, 63, 80, 88, 95, 143, 149, 155] (fun pc ls st => mC (Nat.beq pc 95) (mN st <| gI ls 4 fun a4 => rt (.inl a4)) (mC (Nat.beq pc 143) (mN st <| gD ls 4 <| rt (.inr ())) (fl))) (fun _ => fl) 103 95 [(106, .ref 195), (0, .int x1), (0, .int x2), (0, .int x3), (0, .int y)] [] = (bn (ld 26 202 x2) fun v1 =>
  (if v1 < y then
    rt (.inr ())
  else
    (if x3 < y then
      rt (.inr ())
    else
      bn (ld 6 203 x3) fun v2 =>
      bn (ld 6 203 (x3 - y)) fun v3 =>
      bn (f_Riddles_choices x3 y) fun v4 =>
      bn (sr 6 203 x3 (v2 + (v3 * v4))) fun _ =>
      rt (.inl (y + (1 : Int32)))))) := rfl
theorem b_Riddles_rows_95 {d : Nat} (hcs : AllS L X d (cs_Riddles_rows F_A_within F_Arrays_fill F_Riddles_choices F_Table_at)) (x1 : Int32) (x2 : Int32) (x3 : Int32) {o : Option Value × PH} {Q : ((Int32) ⊕ ((Unit))) → MI → Prop} (qb : ∀ y I, Q (.inl y) I → At L X (d + 1) 172 95 [(106, .ref 195), (0, .int x1), (0, .int x2), (0, .int x3), (0, .int y)] [] I o) (qe143 : ∀ y I, Q (.inr y) I → At L X (d + 1) 172 143 [(106, .ref 195), (0, .int x1), (0, .int x2), (0, .int x3), (0, dV)] [] I o) (y : Int32) (I : MI) (r : (Int32) ⊕ ((Unit))) (I1 : MI) (h : B_Riddles_rows_95 x1 x2 x3 y I = some (r, I1)) (hq : Q r I1) : At L X (d + 1) 172 95 [(106, .ref 195), (0, .int x1), (0, .int x2), (0, .int x3), (0, .int y)] [] I o := by
  refine wf_ok z_Riddles_rows hcs ?_ ?_ _ _ _ _ _ ⟨rfl, trivial, trivial, trivial, trivial, trivial⟩ trivial (unm_refl _ _) ((congrFun (e_b_Riddles_rows_95 (L := L) (X := X) F_A_within F_Arrays_fill F_Riddles_choices F_Table_at x1 x2 x3 y) I).trans h)
  · intro pc ls st I2 h1 h2 h3 h
    rcases mC_ok h with ⟨hb, h⟩ | ⟨_, h⟩
    · have e := Nat.eq_of_beq_eq_true hb
      subst e
      obtain ⟨hst, h⟩ := mN_ok h
      subst hst
      obtain ⟨a4, n4, h⟩ := gI_ok h
      refine at_leaf (ls2 := [(106, .ref 195), (0, .int x1), (0, .int x2), (0, .int x3), (0, .int a4)]) h3.1 ⟨Or.inr ⟨_, (h3.2 0 rfl).trans rfl⟩, Or.inr ⟨_, (h3.2 1 rfl).trans rfl⟩, Or.inr ⟨_, (h3.2 2 rfl).trans rfl⟩, Or.inr ⟨_, (h3.2 3 rfl).trans rfl⟩, Or.inr n4, trivial⟩ ?_
      cases h; exact qb _ _ hq
    rcases mC_ok h with ⟨hb, h⟩ | ⟨_, h⟩
    · have e := Nat.eq_of_beq_eq_true hb
      subst e
      obtain ⟨hst, h⟩ := mN_ok h
      subst hst
      obtain ⟨n4, h⟩ := gD_ok h
      refine at_leaf (ls2 := [(106, .ref 195), (0, .int x1), (0, .int x2), (0, .int x3), (0, dV)]) h3.1 ⟨Or.inr ⟨_, (h3.2 0 rfl).trans rfl⟩, Or.inr ⟨_, (h3.2 1 rfl).trans rfl⟩, Or.inr ⟨_, (h3.2 2 rfl).trans rfl⟩, Or.inr ⟨_, (h3.2 3 rfl).trans rfl⟩, Or.inl ⟨rfl, n4⟩, trivial⟩ ?_
      cases h; exact qe143 _ _ hq
    cases h
  · intro v I2 _ h
    cases h
def K_Riddles_rows_143 (x1 : Int32) (x2 : Int32) (x3 : Int32) : M ((Int32) ⊕ ((Unit))) :=
  rt (.inl (x3 + (-1 : Int32)))
set_option maxRecDepth 4000 in
theorem e_s_Riddles_rows_143 (f_A_within : Int32 → Int32 → Int32 → M Int32) (f_Arrays_fill : Nat → Int32 → M Unit) (f_Riddles_choices : Int32 → Int32 → M Int32) (f_Table_at : Nat → Int32 → Int32 → M Int32) (x1 : Int32) (x2 : Int32) (x3 : Int32) : wf (β := (Int32) ⊕ ((Unit))) L X q_Riddles_rows 1 (cs_Riddles_rows f_A_within f_Arrays_fill f_Riddles_choices f_Table_at) [3] [10, 63, 80, 88, 95, 143, 149, 155] (fun pc ls st => mC (Nat.beq pc 88) (mN st <| gI ls 3 fun a3 => gD ls 4 <| rt (.inl a3)) (fl)) (fun _ => fl) 103 143 [(106, .ref 195), (0, .int x1), (0, .int x2), (0, .int x3), (0, dV)] [] = (rt (.inl (x3 + (-1 : Int32)))) := rfl
theorem s_Riddles_rows_143 {d : Nat} (hcs : AllS L X d (cs_Riddles_rows F_A_within F_Arrays_fill F_Riddles_choices F_Table_at)) (x1 : Int32) (x2 : Int32) (x3 : Int32) {o : Option Value × PH} {Q : ((Int32) ⊕ ((Unit))) → MI → Prop} (qb : ∀ y I, Q (.inl y) I → At L X (d + 1) 172 88 [(106, .ref 195), (0, .int x1), (0, .int x2), (0, .int y), (0, dV)] [] I o) (qe149 : ∀ y I, Q (.inr y) I → At L X (d + 1) 172 149 [(106, .ref 195), (0, .int x1), (0, .int x2), (0, dV), (0, dV)] [] I o) (I : MI) (r : (Int32) ⊕ ((Unit))) (I1 : MI) (h : K_Riddles_rows_143 x1 x2 x3 I = some (r, I1)) (hq : Q r I1) : At L X (d + 1) 172 143 [(106, .ref 195), (0, .int x1), (0, .int x2), (0, .int x3), (0, dV)] [] I o := by
  refine wf_ok z_Riddles_rows hcs ?_ ?_ _ _ _ _ _ ⟨rfl, trivial, trivial, trivial, trivial, trivial⟩ trivial (unm_refl _ _) ((congrFun (e_s_Riddles_rows_143 (L := L) (X := X) F_A_within F_Arrays_fill F_Riddles_choices F_Table_at x1 x2 x3) I).trans h)
  · intro pc ls st I2 h1 h2 h3 h
    rcases mC_ok h with ⟨hb, h⟩ | ⟨_, h⟩
    · have e := Nat.eq_of_beq_eq_true hb
      subst e
      obtain ⟨hst, h⟩ := mN_ok h
      subst hst
      obtain ⟨a3, n3, h⟩ := gI_ok h
      obtain ⟨n4, h⟩ := gD_ok h
      refine at_leaf (ls2 := [(106, .ref 195), (0, .int x1), (0, .int x2), (0, .int a3), (0, dV)]) h3.1 ⟨Or.inr ⟨_, (h3.2 0 rfl).trans rfl⟩, Or.inr ⟨_, (h3.2 1 rfl).trans rfl⟩, Or.inr ⟨_, (h3.2 2 rfl).trans rfl⟩, Or.inr n3, Or.inl ⟨rfl, n4⟩, trivial⟩ ?_
      cases h; exact qb _ _ hq
    cases h
  · intro v I2 _ h
    cases h
def K_Riddles_rows_95 (x1 : Int32) (x2 : Int32) (x3 : Int32) (x4 : Int32) : M ((Int32) ⊕ ((Unit))) :=
  bn (lp (B_Riddles_rows_95 x1 x2 x3) FU x4) fun e => K_Riddles_rows_143 x1 x2 x3
theorem s_Riddles_rows_95 {d : Nat} (hcs : AllS L X d (cs_Riddles_rows F_A_within F_Arrays_fill F_Riddles_choices F_Table_at)) (x1 : Int32) (x2 : Int32) (x3 : Int32) (x4 : Int32) {o : Option Value × PH} {Q : ((Int32) ⊕ ((Unit))) → MI → Prop} (qb : ∀ y I, Q (.inl y) I → At L X (d + 1) 172 88 [(106, .ref 195), (0, .int x1), (0, .int x2), (0, .int y), (0, dV)] [] I o) (qe149 : ∀ y I, Q (.inr y) I → At L X (d + 1) 172 149 [(106, .ref 195), (0, .int x1), (0, .int x2), (0, dV), (0, dV)] [] I o) (I : MI) (r : (Int32) ⊕ ((Unit))) (I1 : MI) (h : K_Riddles_rows_95 x1 x2 x3 x4 I = some (r, I1)) (hq : Q r I1) : At L X (d + 1) 172 95 [(106, .ref 195), (0, .int x1), (0, .int x2), (0, .int x3), (0, .int x4)] [] I o := by
  unfold K_Riddles_rows_95 at h
  obtain ⟨e, I2, h1, h2⟩ := bn_some h
  have w0 := fun w => at_lp (body := B_Riddles_rows_95 x1 x2 x3) (P := (fun (y : Int32) I => At L X (d + 1) 172 95 [(106, .ref 195), (0, .int x1), (0, .int x2), (0, .int x3), (0, .int y)] [] I o)) (Q := (fun (e : (Unit)) I => (K_Riddles_rows_143 x1 x2 x3) I = some (r, I1))) w FU x4 I e I2 h1 h2
  refine w0 ?_
  intro y I r2 I3 h hq2
  exact b_Riddles_rows_95 hcs x1 x2 x3 (Q := SQ (fun (y : Int32) I => At L X (d + 1) 172 95 [(106, .ref 195), (0, .int x1), (0, .int x2), (0, .int x3), (0, .int y)] [] I o) (fun (e : (Unit)) I => (K_Riddles_rows_143 x1 x2 x3) I = some (r, I1))) (fun _ _ w => w) (fun y I w => s_Riddles_rows_143 hcs x1 x2 x3 qb qe149 _ _ _ w hq) y I r2 I3 h hq2
def B_Riddles_rows_88 (x1 : Int32) (x2 : Int32) (y : Int32) : M ((Int32) ⊕ ((Unit))) :=
  (if 0 < y then
    K_Riddles_rows_95 x1 x2 y (1 : Int32)
  else
    rt (.inr ()))
set_option maxRecDepth 4000 in
theorem e_b_Riddles_rows_88 (f_A_within : Int32 → Int32 → Int32 → M Int32) (f_Arrays_fill : Nat → Int32 → M Unit) (f_Riddles_choices : Int32 → Int32 → M Int32) (f_Table_at : Nat → Int32 → Int32 → M Int32) (k_95 : Int32 → Int32 → Int32 → Int32 → M ((Int32) ⊕ ((Unit)))) (x1 : Int32) (x2 : Int32) (y : Int32) : wf (β := (Int32) ⊕ ((Unit))) L X q_Riddles_rows 1 (cs_Riddles_rows f_A_within f_Arrays_fill f_Riddles_choices f_Table_at) [4] [10, 63, 80, 88, 95, 143, 149, 155] (fun pc ls st => mC (Nat.beq pc 95) (mN st <| gI ls 4 fun a4 => k_95 x1 x2 y a4) (mC (Nat.beq pc 149) (mN st <| gD ls 3 <| gD ls 4 <| rt (.inr ())) (fl))) (fun _ => fl) 103 88 [(106, .ref 195), (0, .int x1), (0, .int x2), (0, .int y), (0, dV)] [] = ((if 0 < y then
    k_95 x1 x2 y (1 : Int32)
  else
    rt (.inr ()))) := rfl
theorem b_Riddles_rows_88 {d : Nat} (hcs : AllS L X d (cs_Riddles_rows F_A_within F_Arrays_fill F_Riddles_choices F_Table_at)) (x1 : Int32) (x2 : Int32) {o : Option Value × PH} {Q : ((Int32) ⊕ ((Unit))) → MI → Prop} (qb : ∀ y I, Q (.inl y) I → At L X (d + 1) 172 88 [(106, .ref 195), (0, .int x1), (0, .int x2), (0, .int y), (0, dV)] [] I o) (qe149 : ∀ y I, Q (.inr y) I → At L X (d + 1) 172 149 [(106, .ref 195), (0, .int x1), (0, .int x2), (0, dV), (0, dV)] [] I o) (y : Int32) (I : MI) (r : (Int32) ⊕ ((Unit))) (I1 : MI) (h : B_Riddles_rows_88 x1 x2 y I = some (r, I1)) (hq : Q r I1) : At L X (d + 1) 172 88 [(106, .ref 195), (0, .int x1), (0, .int x2), (0, .int y), (0, dV)] [] I o := by
  refine wf_ok z_Riddles_rows hcs ?_ ?_ _ _ _ _ _ ⟨rfl, trivial, trivial, trivial, trivial, trivial⟩ trivial (unm_refl _ _) ((congrFun (e_b_Riddles_rows_88 (L := L) (X := X) F_A_within F_Arrays_fill F_Riddles_choices F_Table_at K_Riddles_rows_95 x1 x2 y) I).trans h)
  · intro pc ls st I2 h1 h2 h3 h
    rcases mC_ok h with ⟨hb, h⟩ | ⟨_, h⟩
    · have e := Nat.eq_of_beq_eq_true hb
      subst e
      obtain ⟨hst, h⟩ := mN_ok h
      subst hst
      obtain ⟨a4, n4, h⟩ := gI_ok h
      refine at_leaf (ls2 := [(106, .ref 195), (0, .int x1), (0, .int x2), (0, .int y), (0, .int a4)]) h3.1 ⟨Or.inr ⟨_, (h3.2 0 rfl).trans rfl⟩, Or.inr ⟨_, (h3.2 1 rfl).trans rfl⟩, Or.inr ⟨_, (h3.2 2 rfl).trans rfl⟩, Or.inr ⟨_, (h3.2 3 rfl).trans rfl⟩, Or.inr n4, trivial⟩ ?_
      exact s_Riddles_rows_95 hcs x1 x2 y a4 qb qe149 _ _ _ h hq
    rcases mC_ok h with ⟨hb, h⟩ | ⟨_, h⟩
    · have e := Nat.eq_of_beq_eq_true hb
      subst e
      obtain ⟨hst, h⟩ := mN_ok h
      subst hst
      obtain ⟨n3, h⟩ := gD_ok h
      obtain ⟨n4, h⟩ := gD_ok h
      refine at_leaf (ls2 := [(106, .ref 195), (0, .int x1), (0, .int x2), (0, dV), (0, dV)]) h3.1 ⟨Or.inr ⟨_, (h3.2 0 rfl).trans rfl⟩, Or.inr ⟨_, (h3.2 1 rfl).trans rfl⟩, Or.inr ⟨_, (h3.2 2 rfl).trans rfl⟩, Or.inl ⟨rfl, n3⟩, Or.inl ⟨rfl, n4⟩, trivial⟩ ?_
      cases h; exact qe149 _ _ hq
    cases h
  · intro v I2 _ h
    cases h
def K_Riddles_rows_149 (x1 : Int32) (x2 : Int32) : M ((Int32) ⊕ ((Unit))) :=
  rt (.inl (x2 + (1 : Int32)))
set_option maxRecDepth 4000 in
theorem e_s_Riddles_rows_149 (f_A_within : Int32 → Int32 → Int32 → M Int32) (f_Arrays_fill : Nat → Int32 → M Unit) (f_Riddles_choices : Int32 → Int32 → M Int32) (f_Table_at : Nat → Int32 → Int32 → M Int32) (x1 : Int32) (x2 : Int32) : wf (β := (Int32) ⊕ ((Unit))) L X q_Riddles_rows 1 (cs_Riddles_rows f_A_within f_Arrays_fill f_Riddles_choices f_Table_at) [2] [10, 63, 80, 88, 95, 143, 149, 155] (fun pc ls st => mC (Nat.beq pc 80) (mN st <| gI ls 2 fun a2 => gD ls 3 <| gD ls 4 <| rt (.inl a2)) (fl)) (fun _ => fl) 103 149 [(106, .ref 195), (0, .int x1), (0, .int x2), (0, dV), (0, dV)] [] = (rt (.inl (x2 + (1 : Int32)))) := rfl
theorem s_Riddles_rows_149 {d : Nat} (hcs : AllS L X d (cs_Riddles_rows F_A_within F_Arrays_fill F_Riddles_choices F_Table_at)) (x1 : Int32) (x2 : Int32) {o : Option Value × PH} {Q : ((Int32) ⊕ ((Unit))) → MI → Prop} (qb : ∀ y I, Q (.inl y) I → At L X (d + 1) 172 80 [(106, .ref 195), (0, .int x1), (0, .int y), (0, dV), (0, dV)] [] I o) (qe155 : ∀ y I, Q (.inr y) I → At L X (d + 1) 172 155 [(106, .ref 195), (0, .int x1), (0, dV), (0, dV), (0, dV)] [] I o) (I : MI) (r : (Int32) ⊕ ((Unit))) (I1 : MI) (h : K_Riddles_rows_149 x1 x2 I = some (r, I1)) (hq : Q r I1) : At L X (d + 1) 172 149 [(106, .ref 195), (0, .int x1), (0, .int x2), (0, dV), (0, dV)] [] I o := by
  refine wf_ok z_Riddles_rows hcs ?_ ?_ _ _ _ _ _ ⟨rfl, trivial, trivial, trivial, trivial, trivial⟩ trivial (unm_refl _ _) ((congrFun (e_s_Riddles_rows_149 (L := L) (X := X) F_A_within F_Arrays_fill F_Riddles_choices F_Table_at x1 x2) I).trans h)
  · intro pc ls st I2 h1 h2 h3 h
    rcases mC_ok h with ⟨hb, h⟩ | ⟨_, h⟩
    · have e := Nat.eq_of_beq_eq_true hb
      subst e
      obtain ⟨hst, h⟩ := mN_ok h
      subst hst
      obtain ⟨a2, n2, h⟩ := gI_ok h
      obtain ⟨n3, h⟩ := gD_ok h
      obtain ⟨n4, h⟩ := gD_ok h
      refine at_leaf (ls2 := [(106, .ref 195), (0, .int x1), (0, .int a2), (0, dV), (0, dV)]) h3.1 ⟨Or.inr ⟨_, (h3.2 0 rfl).trans rfl⟩, Or.inr ⟨_, (h3.2 1 rfl).trans rfl⟩, Or.inr n2, Or.inl ⟨rfl, n3⟩, Or.inl ⟨rfl, n4⟩, trivial⟩ ?_
      cases h; exact qb _ _ hq
    cases h
  · intro v I2 _ h
    cases h
def K_Riddles_rows_88 (x1 : Int32) (x2 : Int32) (x3 : Int32) : M ((Int32) ⊕ ((Unit))) :=
  bn (lp (B_Riddles_rows_88 x1 x2) FU x3) fun e => K_Riddles_rows_149 x1 x2
theorem s_Riddles_rows_88 {d : Nat} (hcs : AllS L X d (cs_Riddles_rows F_A_within F_Arrays_fill F_Riddles_choices F_Table_at)) (x1 : Int32) (x2 : Int32) (x3 : Int32) {o : Option Value × PH} {Q : ((Int32) ⊕ ((Unit))) → MI → Prop} (qb : ∀ y I, Q (.inl y) I → At L X (d + 1) 172 80 [(106, .ref 195), (0, .int x1), (0, .int y), (0, dV), (0, dV)] [] I o) (qe155 : ∀ y I, Q (.inr y) I → At L X (d + 1) 172 155 [(106, .ref 195), (0, .int x1), (0, dV), (0, dV), (0, dV)] [] I o) (I : MI) (r : (Int32) ⊕ ((Unit))) (I1 : MI) (h : K_Riddles_rows_88 x1 x2 x3 I = some (r, I1)) (hq : Q r I1) : At L X (d + 1) 172 88 [(106, .ref 195), (0, .int x1), (0, .int x2), (0, .int x3), (0, dV)] [] I o := by
  unfold K_Riddles_rows_88 at h
  obtain ⟨e, I2, h1, h2⟩ := bn_some h
  have w0 := fun w => at_lp (body := B_Riddles_rows_88 x1 x2) (P := (fun (y : Int32) I => At L X (d + 1) 172 88 [(106, .ref 195), (0, .int x1), (0, .int x2), (0, .int y), (0, dV)] [] I o)) (Q := (fun (e : (Unit)) I => (K_Riddles_rows_149 x1 x2) I = some (r, I1))) w FU x3 I e I2 h1 h2
  refine w0 ?_
  intro y I r2 I3 h hq2
  exact b_Riddles_rows_88 hcs x1 x2 (Q := SQ (fun (y : Int32) I => At L X (d + 1) 172 88 [(106, .ref 195), (0, .int x1), (0, .int x2), (0, .int y), (0, dV)] [] I o) (fun (e : (Unit)) I => (K_Riddles_rows_149 x1 x2) I = some (r, I1))) (fun _ _ w => w) (fun y I w => s_Riddles_rows_149 hcs x1 x2 qb qe155 _ _ _ w hq) y I r2 I3 h hq2
def B_Riddles_rows_80 (x1 : Int32) (y : Int32) : M ((Int32) ⊕ ((Unit))) :=
  (if y < (26 : Int32) then
    K_Riddles_rows_88 x1 y (5 : Int32)
  else
    rt (.inr ()))
set_option maxRecDepth 4000 in
theorem e_b_Riddles_rows_80 (f_A_within : Int32 → Int32 → Int32 → M Int32) (f_Arrays_fill : Nat → Int32 → M Unit) (f_Riddles_choices : Int32 → Int32 → M Int32) (f_Table_at : Nat → Int32 → Int32 → M Int32) (k_88 : Int32 → Int32 → Int32 → M ((Int32) ⊕ ((Unit)))) (x1 : Int32) (y : Int32) : wf (β := (Int32) ⊕ ((Unit))) L X q_Riddles_rows 1 (cs_Riddles_rows f_A_within f_Arrays_fill f_Riddles_choices f_Table_at) [3] [10, 63, 80, 88, 95, 143, 149, 155] (fun pc ls st => mC (Nat.beq pc 88) (mN st <| gI ls 3 fun a3 => gD ls 4 <| k_88 x1 y a3) (mC (Nat.beq pc 155) (mN st <| gD ls 2 <| gD ls 3 <| gD ls 4 <| rt (.inr ())) (fl))) (fun _ => fl) 103 80 [(106, .ref 195), (0, .int x1), (0, .int y), (0, dV), (0, dV)] [] = ((if y < (26 : Int32) then
    k_88 x1 y (5 : Int32)
  else
    rt (.inr ()))) := rfl
theorem b_Riddles_rows_80 {d : Nat} (hcs : AllS L X d (cs_Riddles_rows F_A_within F_Arrays_fill F_Riddles_choices F_Table_at)) (x1 : Int32) {o : Option Value × PH} {Q : ((Int32) ⊕ ((Unit))) → MI → Prop} (qb : ∀ y I, Q (.inl y) I → At L X (d + 1) 172 80 [(106, .ref 195), (0, .int x1), (0, .int y), (0, dV), (0, dV)] [] I o) (qe155 : ∀ y I, Q (.inr y) I → At L X (d + 1) 172 155 [(106, .ref 195), (0, .int x1), (0, dV), (0, dV), (0, dV)] [] I o) (y : Int32) (I : MI) (r : (Int32) ⊕ ((Unit))) (I1 : MI) (h : B_Riddles_rows_80 x1 y I = some (r, I1)) (hq : Q r I1) : At L X (d + 1) 172 80 [(106, .ref 195), (0, .int x1), (0, .int y), (0, dV), (0, dV)] [] I o := by
  refine wf_ok z_Riddles_rows hcs ?_ ?_ _ _ _ _ _ ⟨rfl, trivial, trivial, trivial, trivial, trivial⟩ trivial (unm_refl _ _) ((congrFun (e_b_Riddles_rows_80 (L := L) (X := X) F_A_within F_Arrays_fill F_Riddles_choices F_Table_at K_Riddles_rows_88 x1 y) I).trans h)
  · intro pc ls st I2 h1 h2 h3 h
    rcases mC_ok h with ⟨hb, h⟩ | ⟨_, h⟩
    · have e := Nat.eq_of_beq_eq_true hb
      subst e
      obtain ⟨hst, h⟩ := mN_ok h
      subst hst
      obtain ⟨a3, n3, h⟩ := gI_ok h
      obtain ⟨n4, h⟩ := gD_ok h
      refine at_leaf (ls2 := [(106, .ref 195), (0, .int x1), (0, .int y), (0, .int a3), (0, dV)]) h3.1 ⟨Or.inr ⟨_, (h3.2 0 rfl).trans rfl⟩, Or.inr ⟨_, (h3.2 1 rfl).trans rfl⟩, Or.inr ⟨_, (h3.2 2 rfl).trans rfl⟩, Or.inr n3, Or.inl ⟨rfl, n4⟩, trivial⟩ ?_
      exact s_Riddles_rows_88 hcs x1 y a3 qb qe155 _ _ _ h hq
    rcases mC_ok h with ⟨hb, h⟩ | ⟨_, h⟩
    · have e := Nat.eq_of_beq_eq_true hb
      subst e
      obtain ⟨hst, h⟩ := mN_ok h
      subst hst
      obtain ⟨n2, h⟩ := gD_ok h
      obtain ⟨n3, h⟩ := gD_ok h
      obtain ⟨n4, h⟩ := gD_ok h
      refine at_leaf (ls2 := [(106, .ref 195), (0, .int x1), (0, dV), (0, dV), (0, dV)]) h3.1 ⟨Or.inr ⟨_, (h3.2 0 rfl).trans rfl⟩, Or.inr ⟨_, (h3.2 1 rfl).trans rfl⟩, Or.inl ⟨rfl, n2⟩, Or.inl ⟨rfl, n3⟩, Or.inl ⟨rfl, n4⟩, trivial⟩ ?_
      cases h; exact qe155 _ _ hq
    cases h
  · intro v I2 _ h
    cases h
def K_Riddles_rows_155 (x1 : Int32) : M (Int32) :=
  bn (F_A_within x1 (0 : Int32) (5 : Int32)) fun v1 =>
  (if v1 = 0 then
    rt (-1 : Int32)
  else
    bn (ld 6 203 x1) fun v2 =>
    rt v2)
set_option maxRecDepth 4000 in
theorem e_s_Riddles_rows_155 (f_A_within : Int32 → Int32 → Int32 → M Int32) (f_Arrays_fill : Nat → Int32 → M Unit) (f_Riddles_choices : Int32 → Int32 → M Int32) (f_Table_at : Nat → Int32 → Int32 → M Int32) (x1 : Int32) : wf (β := Int32) L X q_Riddles_rows 1 (cs_Riddles_rows f_A_within f_Arrays_fill f_Riddles_choices f_Table_at) [] [10, 63, 80, 88, 95, 143, 149, 155] (fun _ _ _ => fl) (fun v => match v with | some (_, .int x) => rt x | _ => fl) 103 155 [(106, .ref 195), (0, .int x1), (0, dV), (0, dV), (0, dV)] [] = (bn (f_A_within x1 (0 : Int32) (5 : Int32)) fun v1 =>
  (if v1 = 0 then
    rt (-1 : Int32)
  else
    bn (ld 6 203 x1) fun v2 =>
    rt v2)) := rfl
theorem s_Riddles_rows_155 {d : Nat} (hcs : AllS L X d (cs_Riddles_rows F_A_within F_Arrays_fill F_Riddles_choices F_Table_at)) (x1 : Int32) {o : Option Value × PH} {Q : (Int32) → MI → Prop} (q0 : ∀ v I, Q v I → o = (some (.int v), HH I)) (I : MI) (r : Int32) (I1 : MI) (h : K_Riddles_rows_155 x1 I = some (r, I1)) (hq : Q r I1) : At L X (d + 1) 172 155 [(106, .ref 195), (0, .int x1), (0, dV), (0, dV), (0, dV)] [] I o := by
  refine wf_ok z_Riddles_rows hcs ?_ ?_ _ _ _ _ _ ⟨rfl, trivial, trivial, trivial, trivial, trivial⟩ trivial (unm_refl _ _) ((congrFun (e_s_Riddles_rows_155 (L := L) (X := X) F_A_within F_Arrays_fill F_Riddles_choices F_Table_at x1) I).trans h)
  · intro pc ls st I2 h1 h2 h3 h
    cases h
  · intro v I2 _ h
    split at h
    · cases h; exact q0 _ _ hq
    · cases h
def K_Riddles_rows_80 (x1 : Int32) (x2 : Int32) : M (Int32) :=
  bn (lp (B_Riddles_rows_80 x1) FU x2) fun e => K_Riddles_rows_155 x1
theorem s_Riddles_rows_80 {d : Nat} (hcs : AllS L X d (cs_Riddles_rows F_A_within F_Arrays_fill F_Riddles_choices F_Table_at)) (x1 : Int32) (x2 : Int32) {o : Option Value × PH} {Q : (Int32) → MI → Prop} (q0 : ∀ v I, Q v I → o = (some (.int v), HH I)) (I : MI) (r : Int32) (I1 : MI) (h : K_Riddles_rows_80 x1 x2 I = some (r, I1)) (hq : Q r I1) : At L X (d + 1) 172 80 [(106, .ref 195), (0, .int x1), (0, .int x2), (0, dV), (0, dV)] [] I o := by
  unfold K_Riddles_rows_80 at h
  obtain ⟨e, I2, h1, h2⟩ := bn_some h
  have w0 := fun w => at_lp (body := B_Riddles_rows_80 x1) (P := (fun (y : Int32) I => At L X (d + 1) 172 80 [(106, .ref 195), (0, .int x1), (0, .int y), (0, dV), (0, dV)] [] I o)) (Q := (fun (e : (Unit)) I => (K_Riddles_rows_155 x1) I = some (r, I1))) w FU x2 I e I2 h1 h2
  refine w0 ?_
  intro y I r2 I3 h hq2
  exact b_Riddles_rows_80 hcs x1 (Q := SQ (fun (y : Int32) I => At L X (d + 1) 172 80 [(106, .ref 195), (0, .int x1), (0, .int y), (0, dV), (0, dV)] [] I o) (fun (e : (Unit)) I => (K_Riddles_rows_155 x1) I = some (r, I1))) (fun _ _ w => w) (fun y I w => s_Riddles_rows_155 hcs x1 q0 _ _ _ w hq) y I r2 I3 h hq2
def K_Riddles_rows_63 (x1 : Int32) : M (Int32) :=
  bn (F_Arrays_fill 203 (0 : Int32)) fun _ =>
  bn (sr 6 203 (0 : Int32) (1 : Int32)) fun _ =>
  K_Riddles_rows_80 x1 (0 : Int32)
set_option maxRecDepth 4000 in
theorem e_s_Riddles_rows_63 (f_A_within : Int32 → Int32 → Int32 → M Int32) (f_Arrays_fill : Nat → Int32 → M Unit) (f_Riddles_choices : Int32 → Int32 → M Int32) (f_Table_at : Nat → Int32 → Int32 → M Int32) (k_80 : Int32 → Int32 → M (Int32)) (x1 : Int32) : wf (β := Int32) L X q_Riddles_rows 1 (cs_Riddles_rows f_A_within f_Arrays_fill f_Riddles_choices f_Table_at) [2] [10, 63, 80, 88, 95, 143, 149, 155] (fun pc ls st => mC (Nat.beq pc 80) (mN st <| gI ls 2 fun a2 => gD ls 3 <| gD ls 4 <| k_80 x1 a2) (fl)) (fun v => match v with | some (_, .int x) => rt x | _ => fl) 103 63 [(106, .ref 195), (0, .int x1), (0, dV), (0, dV), (0, dV)] [] = (bn (f_Arrays_fill 203 (0 : Int32)) fun _ =>
  bn (sr 6 203 (0 : Int32) (1 : Int32)) fun _ =>
  k_80 x1 (0 : Int32)) := rfl
theorem s_Riddles_rows_63 {d : Nat} (hcs : AllS L X d (cs_Riddles_rows F_A_within F_Arrays_fill F_Riddles_choices F_Table_at)) (x1 : Int32) {o : Option Value × PH} {Q : (Int32) → MI → Prop} (q0 : ∀ v I, Q v I → o = (some (.int v), HH I)) (I : MI) (r : Int32) (I1 : MI) (h : K_Riddles_rows_63 x1 I = some (r, I1)) (hq : Q r I1) : At L X (d + 1) 172 63 [(106, .ref 195), (0, .int x1), (0, dV), (0, dV), (0, dV)] [] I o := by
  refine wf_ok z_Riddles_rows hcs ?_ ?_ _ _ _ _ _ ⟨rfl, trivial, trivial, trivial, trivial, trivial⟩ trivial (unm_refl _ _) ((congrFun (e_s_Riddles_rows_63 (L := L) (X := X) F_A_within F_Arrays_fill F_Riddles_choices F_Table_at K_Riddles_rows_80 x1) I).trans h)
  · intro pc ls st I2 h1 h2 h3 h
    rcases mC_ok h with ⟨hb, h⟩ | ⟨_, h⟩
    · have e := Nat.eq_of_beq_eq_true hb
      subst e
      obtain ⟨hst, h⟩ := mN_ok h
      subst hst
      obtain ⟨a2, n2, h⟩ := gI_ok h
      obtain ⟨n3, h⟩ := gD_ok h
      obtain ⟨n4, h⟩ := gD_ok h
      refine at_leaf (ls2 := [(106, .ref 195), (0, .int x1), (0, .int a2), (0, dV), (0, dV)]) h3.1 ⟨Or.inr ⟨_, (h3.2 0 rfl).trans rfl⟩, Or.inr ⟨_, (h3.2 1 rfl).trans rfl⟩, Or.inr n2, Or.inl ⟨rfl, n3⟩, Or.inl ⟨rfl, n4⟩, trivial⟩ ?_
      exact s_Riddles_rows_80 hcs x1 a2 q0 _ _ _ h hq
    cases h
  · intro v I2 _ h
    split at h
    · cases h; exact q0 _ _ hq
    · cases h
def K_Riddles_rows_10 (x1 : Int32) (x2 : Int32) : M (Int32) :=
  bn (lp (B_Riddles_rows_10 x1) FU x2) fun e => K_Riddles_rows_63 x1
theorem s_Riddles_rows_10 {d : Nat} (hcs : AllS L X d (cs_Riddles_rows F_A_within F_Arrays_fill F_Riddles_choices F_Table_at)) (x1 : Int32) (x2 : Int32) {o : Option Value × PH} {Q : (Int32) → MI → Prop} (q0 : ∀ v I, Q v I → o = (some (.int v), HH I)) (I : MI) (r : Int32) (I1 : MI) (h : K_Riddles_rows_10 x1 x2 I = some (r, I1)) (hq : Q r I1) : At L X (d + 1) 172 10 [(106, .ref 195), (0, .int x1), (0, .int x2), (0, dV), (0, dV)] [] I o := by
  unfold K_Riddles_rows_10 at h
  obtain ⟨e, I2, h1, h2⟩ := bn_some h
  have w0 := fun w => at_lp (body := B_Riddles_rows_10 x1) (P := (fun (y : Int32) I => At L X (d + 1) 172 10 [(106, .ref 195), (0, .int x1), (0, .int y), (0, dV), (0, dV)] [] I o)) (Q := (fun (e : (Unit)) I => (K_Riddles_rows_63 x1) I = some (r, I1))) w FU x2 I e I2 h1 h2
  refine w0 ?_
  intro y I r2 I3 h hq2
  exact b_Riddles_rows_10 hcs x1 (Q := SQ (fun (y : Int32) I => At L X (d + 1) 172 10 [(106, .ref 195), (0, .int x1), (0, .int y), (0, dV), (0, dV)] [] I o) (fun (e : (Unit)) I => (K_Riddles_rows_63 x1) I = some (r, I1))) (fun _ _ w => w) (fun y I w => s_Riddles_rows_63 hcs x1 q0 _ _ _ w hq) y I r2 I3 h hq2
def F_Riddles_rows (x1 : Int32) : M (Int32) :=
  bn (F_Arrays_fill 202 (0 : Int32)) fun _ =>
  K_Riddles_rows_10 x1 (0 : Int32)
set_option maxRecDepth 4000 in
theorem e_s_Riddles_rows_0 (f_A_within : Int32 → Int32 → Int32 → M Int32) (f_Arrays_fill : Nat → Int32 → M Unit) (f_Riddles_choices : Int32 → Int32 → M Int32) (f_Table_at : Nat → Int32 → Int32 → M Int32) (k_10 : Int32 → Int32 → M (Int32)) (x1 : Int32) : wf (β := Int32) L X q_Riddles_rows 1 (cs_Riddles_rows f_A_within f_Arrays_fill f_Riddles_choices f_Table_at) [2] [10, 63, 80, 88, 95, 143, 149, 155] (fun pc ls st => mC (Nat.beq pc 10) (mN st <| gI ls 2 fun a2 => gD ls 3 <| gD ls 4 <| k_10 x1 a2) (fl)) (fun v => match v with | some (_, .int x) => rt x | _ => fl) 103 0 [(106, .ref 195), (0, .int x1), (0, dV), (0, dV), (0, dV)] [] = (bn (f_Arrays_fill 202 (0 : Int32)) fun _ =>
  k_10 x1 (0 : Int32)) := rfl
theorem s_Riddles_rows_0 {d : Nat} (hcs : AllS L X d (cs_Riddles_rows F_A_within F_Arrays_fill F_Riddles_choices F_Table_at)) (x1 : Int32) {o : Option Value × PH} {Q : (Int32) → MI → Prop} (q0 : ∀ v I, Q v I → o = (some (.int v), HH I)) (I : MI) (r : Int32) (I1 : MI) (h : F_Riddles_rows x1 I = some (r, I1)) (hq : Q r I1) : At L X (d + 1) 172 0 [(106, .ref 195), (0, .int x1), (0, dV), (0, dV), (0, dV)] [] I o := by
  refine wf_ok z_Riddles_rows hcs ?_ ?_ _ _ _ _ _ ⟨rfl, trivial, trivial, trivial, trivial, trivial⟩ trivial (unm_refl _ _) ((congrFun (e_s_Riddles_rows_0 (L := L) (X := X) F_A_within F_Arrays_fill F_Riddles_choices F_Table_at K_Riddles_rows_10 x1) I).trans h)
  · intro pc ls st I2 h1 h2 h3 h
    rcases mC_ok h with ⟨hb, h⟩ | ⟨_, h⟩
    · have e := Nat.eq_of_beq_eq_true hb
      subst e
      obtain ⟨hst, h⟩ := mN_ok h
      subst hst
      obtain ⟨a2, n2, h⟩ := gI_ok h
      obtain ⟨n3, h⟩ := gD_ok h
      obtain ⟨n4, h⟩ := gD_ok h
      refine at_leaf (ls2 := [(106, .ref 195), (0, .int x1), (0, .int a2), (0, dV), (0, dV)]) h3.1 ⟨Or.inr ⟨_, (h3.2 0 rfl).trans rfl⟩, Or.inr ⟨_, (h3.2 1 rfl).trans rfl⟩, Or.inr n2, Or.inl ⟨rfl, n3⟩, Or.inl ⟨rfl, n4⟩, trivial⟩ ?_
      exact s_Riddles_rows_10 hcs x1 a2 q0 _ _ _ h hq
    cases h
  · intro v I2 _ h
    split at h
    · cases h; exact q0 _ _ hq
    · cases h
theorem w_Riddles_rows {d : Nat} (hcs : AllS L X d (cs_Riddles_rows F_A_within F_Arrays_fill F_Riddles_choices F_Table_at)) : Snd L X (d + 1) 172 2 (W_Riddles_rows F_Riddles_rows) := by
  refine ⟨_, z_Riddles_rows, rfl, fun β args k I r hty hlen h => ?_⟩
  unfold W_Riddles_rows at h
  split at h
  · rename_i t0 a0 u1 a1
    obtain ⟨hb0, h⟩ := mB_ok h
    have e0 := Nat.eq_of_beq_eq_true hb0
    have g0 : okB 106 a0 = true := e0 ▸ hty.1
    have e20 := one_106 g0
    subst e20
    obtain ⟨v, I1, h1, h2⟩ := bn_some h
    refine ⟨gf_obj (c := 6) (by decide) g0, rfl, some (0, .int v), I1, trivial, ?_, h2⟩
    exact s_Riddles_rows_0 hcs a1  (Q := fun w I => w = v ∧ I = I1) (fun w I q => by obtain ⟨rfl, rfl⟩ := q; rfl) I v I1 h1 ⟨rfl, rfl⟩
  · cases h
theorem S_Riddles_rows {d : Nat} (hd : 2 ≤ d) : Snd L X d 172 2 (W_Riddles_rows F_Riddles_rows) := by
  obtain ⟨e, rfl⟩ : ∃ e, d = e + 1 := ⟨d - 1, by omega⟩
  exact w_Riddles_rows ⟨S_A_within (by omega), S_Arrays_fill (by omega), S_Riddles_choices (by omega), S_Table_at (by omega), trivial⟩
set_option maxRecDepth 100000 in
theorem z_A_named : pT[171]? = some (q_A_named, 2, 2, 1, 11) := rfl
def W_A_named (F : Int32 → M Int32) : CSem := fun _ args k => match args with
  | [(t0, .ref a0), (_, .int a1)] => mB (Nat.beq t0 111) <| bn (F a1) fun v => k (some (0, .int v))
  | _ => fl
def cs_A_named (f_A_within : Int32 → Int32 → Int32 → M Int32) (f_Riddles_rows : Int32 → M Int32) : List (Nat × Nat × CSem) := [(18, 3, W_A_within f_A_within), (172, 2, W_Riddles_rows f_Riddles_rows)]
def F_A_named (x1 : Int32) : M (Int32) :=
  bn (F_A_within x1 (0 : Int32) (5 : Int32)) fun v1 =>
  (if v1 = 0 then
    rt (-1 : Int32)
  else
    bn (F_Riddles_rows x1) fun v2 =>
    rt v2)
set_option maxRecDepth 4000 in
theorem e_s_A_named_0 (f_A_within : Int32 → Int32 → Int32 → M Int32) (f_Riddles_rows : Int32 → M Int32) (x1 : Int32) : wf (β := Int32) L X q_A_named 1 (cs_A_named f_A_within f_Riddles_rows) [] [] (fun _ _ _ => fl) (fun v => match v with | some (_, .int x) => rt x | _ => fl) 17 0 [(111, .ref 0), (0, .int x1)] [] = (bn (f_A_within x1 (0 : Int32) (5 : Int32)) fun v1 =>
  (if v1 = 0 then
    rt (-1 : Int32)
  else
    bn (f_Riddles_rows x1) fun v2 =>
    rt v2)) := rfl
theorem s_A_named_0 {d : Nat} (hcs : AllS L X d (cs_A_named F_A_within F_Riddles_rows)) (x1 : Int32) {o : Option Value × PH} {Q : (Int32) → MI → Prop} (q0 : ∀ v I, Q v I → o = (some (.int v), HH I)) (I : MI) (r : Int32) (I1 : MI) (h : F_A_named x1 I = some (r, I1)) (hq : Q r I1) : At L X (d + 1) 171 0 [(111, .ref 0), (0, .int x1)] [] I o := by
  refine wf_ok z_A_named hcs ?_ ?_ _ _ _ _ _ ⟨rfl, trivial, trivial⟩ trivial (unm_refl _ _) ((congrFun (e_s_A_named_0 (L := L) (X := X) F_A_within F_Riddles_rows x1) I).trans h)
  · intro pc ls st I2 h1 h2 h3 h
    cases h
  · intro v I2 _ h
    split at h
    · cases h; exact q0 _ _ hq
    · cases h
theorem w_A_named {d : Nat} (hcs : AllS L X d (cs_A_named F_A_within F_Riddles_rows)) : Snd L X (d + 1) 171 2 (W_A_named F_A_named) := by
  refine ⟨_, z_A_named, rfl, fun β args k I r hty hlen h => ?_⟩
  unfold W_A_named at h
  split at h
  · rename_i t0 a0 u1 a1
    obtain ⟨hb0, h⟩ := mB_ok h
    have e0 := Nat.eq_of_beq_eq_true hb0
    have g0 : okB 111 a0 = true := e0 ▸ hty.1
    have e20 := one_111 g0
    subst e20
    obtain ⟨v, I1, h1, h2⟩ := bn_some h
    refine ⟨gf_obj (c := 11) (by decide) g0, rfl, some (0, .int v), I1, trivial, ?_, h2⟩
    exact s_A_named_0 hcs a1  (Q := fun w I => w = v ∧ I = I1) (fun w I q => by obtain ⟨rfl, rfl⟩ := q; rfl) I v I1 h1 ⟨rfl, rfl⟩
  · cases h
theorem S_A_named {d : Nat} (hd : 3 ≤ d) : Snd L X d 171 2 (W_A_named F_A_named) := by
  obtain ⟨e, rfl⟩ : ∃ e, d = e + 1 := ⟨d - 1, by omega⟩
  exact w_A_named ⟨S_A_within (by omega), S_Riddles_rows (by omega), trivial⟩
set_option maxRecDepth 100000 in
theorem z_Riddles_groupOf : pT[135]? = some (q_Riddles_groupOf, 2, 2, 1, 6) := rfl
def W_Riddles_groupOf (F : Int32 → M Int32) : CSem := fun _ args k => match args with
  | [(t0, .ref a0), (_, .int a1)] => mB (Nat.beq t0 106) <| bn (F a1) fun v => k (some (0, .int v))
  | _ => fl
def cs_Riddles_groupOf (f_A_within : Int32 → Int32 → Int32 → M Int32) : List (Nat × Nat × CSem) := [(18, 3, W_A_within f_A_within)]
def F_Riddles_groupOf (x1 : Int32) : M (Int32) :=
  bn (F_A_within x1 (0 : Int32) (9 : Int32)) fun v1 =>
  (if v1 = 0 then
    rt (0 : Int32)
  else
    bn (ld 10 196 x1) fun v2 =>
    rt v2)
set_option maxRecDepth 4000 in
theorem e_s_Riddles_groupOf_0 (f_A_within : Int32 → Int32 → Int32 → M Int32) (x1 : Int32) : wf (β := Int32) L X q_Riddles_groupOf 1 (cs_Riddles_groupOf f_A_within) [] [] (fun _ _ _ => fl) (fun v => match v with | some (_, .int x) => rt x | _ => fl) 17 0 [(106, .ref 195), (0, .int x1)] [] = (bn (f_A_within x1 (0 : Int32) (9 : Int32)) fun v1 =>
  (if v1 = 0 then
    rt (0 : Int32)
  else
    bn (ld 10 196 x1) fun v2 =>
    rt v2)) := rfl
theorem s_Riddles_groupOf_0 {d : Nat} (hcs : AllS L X d (cs_Riddles_groupOf F_A_within)) (x1 : Int32) {o : Option Value × PH} {Q : (Int32) → MI → Prop} (q0 : ∀ v I, Q v I → o = (some (.int v), HH I)) (I : MI) (r : Int32) (I1 : MI) (h : F_Riddles_groupOf x1 I = some (r, I1)) (hq : Q r I1) : At L X (d + 1) 135 0 [(106, .ref 195), (0, .int x1)] [] I o := by
  refine wf_ok z_Riddles_groupOf hcs ?_ ?_ _ _ _ _ _ ⟨rfl, trivial, trivial⟩ trivial (unm_refl _ _) ((congrFun (e_s_Riddles_groupOf_0 (L := L) (X := X) F_A_within x1) I).trans h)
  · intro pc ls st I2 h1 h2 h3 h
    cases h
  · intro v I2 _ h
    split at h
    · cases h; exact q0 _ _ hq
    · cases h
theorem w_Riddles_groupOf {d : Nat} (hcs : AllS L X d (cs_Riddles_groupOf F_A_within)) : Snd L X (d + 1) 135 2 (W_Riddles_groupOf F_Riddles_groupOf) := by
  refine ⟨_, z_Riddles_groupOf, rfl, fun β args k I r hty hlen h => ?_⟩
  unfold W_Riddles_groupOf at h
  split at h
  · rename_i t0 a0 u1 a1
    obtain ⟨hb0, h⟩ := mB_ok h
    have e0 := Nat.eq_of_beq_eq_true hb0
    have g0 : okB 106 a0 = true := e0 ▸ hty.1
    have e20 := one_106 g0
    subst e20
    obtain ⟨v, I1, h1, h2⟩ := bn_some h
    refine ⟨gf_obj (c := 6) (by decide) g0, rfl, some (0, .int v), I1, trivial, ?_, h2⟩
    exact s_Riddles_groupOf_0 hcs a1  (Q := fun w I => w = v ∧ I = I1) (fun w I q => by obtain ⟨rfl, rfl⟩ := q; rfl) I v I1 h1 ⟨rfl, rfl⟩
  · cases h
theorem S_Riddles_groupOf {d : Nat} (hd : 2 ≤ d) : Snd L X d 135 2 (W_Riddles_groupOf F_Riddles_groupOf) := by
  obtain ⟨e, rfl⟩ : ∃ e, d = e + 1 := ⟨d - 1, by omega⟩
  exact w_Riddles_groupOf ⟨S_A_within (by omega), trivial⟩
set_option maxRecDepth 100000 in
theorem z_Riddles_rename : pT[136]? = some (q_Riddles_rename, 3, 4, 0, 6) := rfl
def W_Riddles_rename (F : Int32 → Int32 → M Unit) : CSem := fun _ args k => match args with
  | [(t0, .ref a0), (_, .int a1), (_, .int a2)] => mB (Nat.beq t0 106) <| bn (F a1 a2) fun _ => k none
  | _ => fl
def cs_Riddles_rename : List (Nat × Nat × CSem) := []
def B_Riddles_rename_2 (x1 : Int32) (x2 : Int32) (y : Int32) : M ((Int32) ⊕ (Unit)) :=
  (if y < (10 : Int32) then
    bn (ld 10 196 y) fun v1 =>
    (if v1 = x1 then
      bn (sr 10 196 y x2) fun _ =>
      rt (.inl (y + (1 : Int32)))
    else
      rt (.inl (y + (1 : Int32))))
  else
    rt (.inr ()))
set_option maxRecDepth 4000 in
theorem e_b_Riddles_rename_2 (x1 : Int32) (x2 : Int32) (y : Int32) : wf (β := (Int32) ⊕ (Unit)) L X q_Riddles_rename 0 cs_Riddles_rename [3] [2] (fun pc ls st => mC (Nat.beq pc 2) (mN st <| gI ls 3 fun a3 => rt (.inl a3)) (fl)) (fun v => match v with | none => rt (.inr ()) | _ => fl) 24 2 [(106, .ref 195), (0, .int x1), (0, .int x2), (0, .int y)] [] = ((if y < (10 : Int32) then
    bn (ld 10 196 y) fun v1 =>
    (if v1 = x1 then
      bn (sr 10 196 y x2) fun _ =>
      rt (.inl (y + (1 : Int32)))
    else
      rt (.inl (y + (1 : Int32))))
  else
    rt (.inr ()))) := rfl
theorem b_Riddles_rename_2 {d : Nat} (hcs : AllS L X d cs_Riddles_rename) (x1 : Int32) (x2 : Int32) {o : Option Value × PH} {Q : ((Int32) ⊕ (Unit)) → MI → Prop} (qb : ∀ y I, Q (.inl y) I → At L X (d + 1) 136 2 [(106, .ref 195), (0, .int x1), (0, .int x2), (0, .int y)] [] I o) (qr : ∀ v I, Q (.inr v) I → o = (none, HH I)) (y : Int32) (I : MI) (r : (Int32) ⊕ (Unit)) (I1 : MI) (h : B_Riddles_rename_2 x1 x2 y I = some (r, I1)) (hq : Q r I1) : At L X (d + 1) 136 2 [(106, .ref 195), (0, .int x1), (0, .int x2), (0, .int y)] [] I o := by
  refine wf_ok z_Riddles_rename hcs ?_ ?_ _ _ _ _ _ ⟨rfl, trivial, trivial, trivial, trivial⟩ trivial (unm_refl _ _) ((congrFun (e_b_Riddles_rename_2 (L := L) (X := X) x1 x2 y) I).trans h)
  · intro pc ls st I2 h1 h2 h3 h
    rcases mC_ok h with ⟨hb, h⟩ | ⟨_, h⟩
    · have e := Nat.eq_of_beq_eq_true hb
      subst e
      obtain ⟨hst, h⟩ := mN_ok h
      subst hst
      obtain ⟨a3, n3, h⟩ := gI_ok h
      refine at_leaf (ls2 := [(106, .ref 195), (0, .int x1), (0, .int x2), (0, .int a3)]) h3.1 ⟨Or.inr ⟨_, (h3.2 0 rfl).trans rfl⟩, Or.inr ⟨_, (h3.2 1 rfl).trans rfl⟩, Or.inr ⟨_, (h3.2 2 rfl).trans rfl⟩, Or.inr n3, trivial⟩ ?_
      cases h; exact qb _ _ hq
    cases h
  · intro v I2 _ h
    split at h
    · cases h; exact qr _ _ hq
    · cases h
def K_Riddles_rename_2 (x1 : Int32) (x2 : Int32) (x3 : Int32) : M (Unit) :=
  lp (B_Riddles_rename_2 x1 x2) FU x3
theorem s_Riddles_rename_2 {d : Nat} (hcs : AllS L X d cs_Riddles_rename) (x1 : Int32) (x2 : Int32) (x3 : Int32) {o : Option Value × PH} {Q : (Unit) → MI → Prop} (q0 : ∀ v I, Q v I → o = (none, HH I)) (I : MI) (r : Unit) (I1 : MI) (h : K_Riddles_rename_2 x1 x2 x3 I = some (r, I1)) (hq : Q r I1) : At L X (d + 1) 136 2 [(106, .ref 195), (0, .int x1), (0, .int x2), (0, .int x3)] [] I o := by
  unfold K_Riddles_rename_2 at h
  have w0 := fun w => at_lp (body := B_Riddles_rename_2 x1 x2) (P := (fun (y : Int32) I => At L X (d + 1) 136 2 [(106, .ref 195), (0, .int x1), (0, .int x2), (0, .int y)] [] I o)) (Q := (fun (e : Unit) I => Q e I)) w FU x3 I r I1 h hq
  refine w0 ?_
  intro y I r I1 h hq
  exact b_Riddles_rename_2 hcs x1 x2 (Q := SQ (fun (y : Int32) I => At L X (d + 1) 136 2 [(106, .ref 195), (0, .int x1), (0, .int x2), (0, .int y)] [] I o) (fun (e : Unit) I => Q e I)) (fun _ _ w => w) q0 y I r I1 h hq
def F_Riddles_rename (x1 : Int32) (x2 : Int32) : M (Unit) :=
  K_Riddles_rename_2 x1 x2 (0 : Int32)
set_option maxRecDepth 4000 in
theorem e_s_Riddles_rename_0 (k_2 : Int32 → Int32 → Int32 → M (Unit)) (x1 : Int32) (x2 : Int32) : wf (β := Unit) L X q_Riddles_rename 0 cs_Riddles_rename [3] [2] (fun pc ls st => mC (Nat.beq pc 2) (mN st <| gI ls 3 fun a3 => k_2 x1 x2 a3) (fl)) (fun v => match v with | none => rt () | _ => fl) 24 0 [(106, .ref 195), (0, .int x1), (0, .int x2), (0, dV)] [] = (k_2 x1 x2 (0 : Int32)) := rfl
theorem s_Riddles_rename_0 {d : Nat} (hcs : AllS L X d cs_Riddles_rename) (x1 : Int32) (x2 : Int32) {o : Option Value × PH} {Q : (Unit) → MI → Prop} (q0 : ∀ v I, Q v I → o = (none, HH I)) (I : MI) (r : Unit) (I1 : MI) (h : F_Riddles_rename x1 x2 I = some (r, I1)) (hq : Q r I1) : At L X (d + 1) 136 0 [(106, .ref 195), (0, .int x1), (0, .int x2), (0, dV)] [] I o := by
  refine wf_ok z_Riddles_rename hcs ?_ ?_ _ _ _ _ _ ⟨rfl, trivial, trivial, trivial, trivial⟩ trivial (unm_refl _ _) ((congrFun (e_s_Riddles_rename_0 (L := L) (X := X) K_Riddles_rename_2 x1 x2) I).trans h)
  · intro pc ls st I2 h1 h2 h3 h
    rcases mC_ok h with ⟨hb, h⟩ | ⟨_, h⟩
    · have e := Nat.eq_of_beq_eq_true hb
      subst e
      obtain ⟨hst, h⟩ := mN_ok h
      subst hst
      obtain ⟨a3, n3, h⟩ := gI_ok h
      refine at_leaf (ls2 := [(106, .ref 195), (0, .int x1), (0, .int x2), (0, .int a3)]) h3.1 ⟨Or.inr ⟨_, (h3.2 0 rfl).trans rfl⟩, Or.inr ⟨_, (h3.2 1 rfl).trans rfl⟩, Or.inr ⟨_, (h3.2 2 rfl).trans rfl⟩, Or.inr n3, trivial⟩ ?_
      exact s_Riddles_rename_2 hcs x1 x2 a3 q0 _ _ _ h hq
    cases h
  · intro v I2 _ h
    split at h
    · cases h; exact q0 _ _ hq
    · cases h
theorem w_Riddles_rename {d : Nat} (hcs : AllS L X d cs_Riddles_rename) : Snd L X (d + 1) 136 3 (W_Riddles_rename F_Riddles_rename) := by
  refine ⟨_, z_Riddles_rename, rfl, fun β args k I r hty hlen h => ?_⟩
  unfold W_Riddles_rename at h
  split at h
  · rename_i t0 a0 u1 a1 u2 a2
    obtain ⟨hb0, h⟩ := mB_ok h
    have e0 := Nat.eq_of_beq_eq_true hb0
    have g0 : okB 106 a0 = true := e0 ▸ hty.1
    have e20 := one_106 g0
    subst e20
    obtain ⟨v, I1, h1, h2⟩ := bn_some h
    refine ⟨gf_obj (c := 6) (by decide) g0, rfl, none, I1, trivial, ?_, h2⟩
    exact s_Riddles_rename_0 hcs a1 a2  (Q := fun w I => w = v ∧ I = I1) (fun w I q => by obtain ⟨rfl, rfl⟩ := q; rfl) I v I1 h1 ⟨rfl, rfl⟩
  · cases h
theorem S_Riddles_rename {d : Nat} (hd : 1 ≤ d) : Snd L X d 136 3 (W_Riddles_rename F_Riddles_rename) := by
  obtain ⟨e, rfl⟩ : ∃ e, d = e + 1 := ⟨d - 1, by omega⟩
  exact w_Riddles_rename trivial
set_option maxRecDepth 100000 in
theorem z_Riddles_groups : pT[134]? = some (q_Riddles_groups, 1, 5, 1, 6) := rfl
def W_Riddles_groups (F : M Int32) : CSem := fun _ args k => match args with
  | [(t0, .ref a0)] => mB (Nat.beq t0 106) <| bn (F) fun v => k (some (0, .int v))
  | _ => fl
def cs_Riddles_groups (f_Riddles_groupOf : Int32 → M Int32) (f_Riddles_rename : Int32 → Int32 → M Unit) (f_Table_at : Nat → Int32 → Int32 → M Int32) : List (Nat × Nat × CSem) := [(135, 2, W_Riddles_groupOf f_Riddles_groupOf), (136, 3, W_Riddles_rename f_Riddles_rename), (36, 3, W_Table_at f_Table_at)]
def B_Riddles_groups_2 (y : Int32) : M ((Int32) ⊕ ((Unit))) :=
  (if y < (10 : Int32) then
    bn (sr 10 196 y y) fun _ =>
    rt (.inl (y + (1 : Int32)))
  else
    rt (.inr ()))
set_option maxRecDepth 4000 in
theorem e_b_Riddles_groups_2 (f_Riddles_groupOf : Int32 → M Int32) (f_Riddles_rename : Int32 → Int32 → M Unit) (f_Table_at : Nat → Int32 → Int32 → M Int32) (y : Int32) : wf (β := (Int32) ⊕ ((Unit))) L X q_Riddles_groups 1 (cs_Riddles_groups f_Riddles_groupOf f_Riddles_rename f_Table_at) [1] [2, 21, 26] (fun pc ls st => mC (Nat.beq pc 2) (mN st <| gI ls 1 fun a1 => gD ls 2 <| gD ls 3 <| gD ls 4 <| rt (.inl a1)) (mC (Nat.beq pc 21) (mN st <| gD ls 1 <| gD ls 2 <| gD ls 3 <| gD ls 4 <| rt (.inr ())) (fl))) (fun _ => fl) 69 2 [(106, .ref 195), (0, .int y), (0, dV), (0, dV), (0, dV)] [] = ((if y < (10 : Int32) then
    bn (sr 10 196 y y) fun _ =>
    rt (.inl (y + (1 : Int32)))
  else
    rt (.inr ()))) := rfl
theorem b_Riddles_groups_2 {d : Nat} (hcs : AllS L X d (cs_Riddles_groups F_Riddles_groupOf F_Riddles_rename F_Table_at)) {o : Option Value × PH} {Q : ((Int32) ⊕ ((Unit))) → MI → Prop} (qb : ∀ y I, Q (.inl y) I → At L X (d + 1) 134 2 [(106, .ref 195), (0, .int y), (0, dV), (0, dV), (0, dV)] [] I o) (qe21 : ∀ y I, Q (.inr y) I → At L X (d + 1) 134 21 [(106, .ref 195), (0, dV), (0, dV), (0, dV), (0, dV)] [] I o) (y : Int32) (I : MI) (r : (Int32) ⊕ ((Unit))) (I1 : MI) (h : B_Riddles_groups_2 y I = some (r, I1)) (hq : Q r I1) : At L X (d + 1) 134 2 [(106, .ref 195), (0, .int y), (0, dV), (0, dV), (0, dV)] [] I o := by
  refine wf_ok z_Riddles_groups hcs ?_ ?_ _ _ _ _ _ ⟨rfl, trivial, trivial, trivial, trivial, trivial⟩ trivial (unm_refl _ _) ((congrFun (e_b_Riddles_groups_2 (L := L) (X := X) F_Riddles_groupOf F_Riddles_rename F_Table_at y) I).trans h)
  · intro pc ls st I2 h1 h2 h3 h
    rcases mC_ok h with ⟨hb, h⟩ | ⟨_, h⟩
    · have e := Nat.eq_of_beq_eq_true hb
      subst e
      obtain ⟨hst, h⟩ := mN_ok h
      subst hst
      obtain ⟨a1, n1, h⟩ := gI_ok h
      obtain ⟨n2, h⟩ := gD_ok h
      obtain ⟨n3, h⟩ := gD_ok h
      obtain ⟨n4, h⟩ := gD_ok h
      refine at_leaf (ls2 := [(106, .ref 195), (0, .int a1), (0, dV), (0, dV), (0, dV)]) h3.1 ⟨Or.inr ⟨_, (h3.2 0 rfl).trans rfl⟩, Or.inr n1, Or.inl ⟨rfl, n2⟩, Or.inl ⟨rfl, n3⟩, Or.inl ⟨rfl, n4⟩, trivial⟩ ?_
      cases h; exact qb _ _ hq
    rcases mC_ok h with ⟨hb, h⟩ | ⟨_, h⟩
    · have e := Nat.eq_of_beq_eq_true hb
      subst e
      obtain ⟨hst, h⟩ := mN_ok h
      subst hst
      obtain ⟨n1, h⟩ := gD_ok h
      obtain ⟨n2, h⟩ := gD_ok h
      obtain ⟨n3, h⟩ := gD_ok h
      obtain ⟨n4, h⟩ := gD_ok h
      refine at_leaf (ls2 := [(106, .ref 195), (0, dV), (0, dV), (0, dV), (0, dV)]) h3.1 ⟨Or.inr ⟨_, (h3.2 0 rfl).trans rfl⟩, Or.inl ⟨rfl, n1⟩, Or.inl ⟨rfl, n2⟩, Or.inl ⟨rfl, n3⟩, Or.inl ⟨rfl, n4⟩, trivial⟩ ?_
      cases h; exact qe21 _ _ hq
    cases h
  · intro v I2 _ h
    cases h
def B_Riddles_groups_26 (y : Int32 × Int32) : M ((Int32 × Int32) ⊕ (Int32)) :=
  bn (rd 29 3) fun v1 =>
  (if y.2 < v1 then
    bn (F_Table_at 29 y.2 (0 : Int32)) fun v2 =>
    bn (F_Riddles_groupOf v2) fun v3 =>
    bn (F_Table_at 29 y.2 (1 : Int32)) fun v4 =>
    bn (F_Riddles_groupOf v4) fun v5 =>
    bn (F_Table_at 29 y.2 (2 : Int32)) fun v6 =>
    (if v6 = (1 : Int32) then
      (if v3 = v5 then
        rt (.inl (y.1, (y.2 + (1 : Int32))))
      else
        bn (F_Riddles_rename (if v3 < v5 then v5 else v3) (if v5 < v3 then v5 else v3)) fun _ =>
        rt (.inl ((y.1 + (-1 : Int32)), (y.2 + (1 : Int32)))))
    else
      rt (.inl (y.1, (y.2 + (1 : Int32)))))
  else
    rt (.inr y.1))
set_option maxRecDepth 4000 in
theorem e_b_Riddles_groups_26 (f_Riddles_groupOf : Int32 → M Int32) (f_Riddles_rename : Int32 → Int32 → M Unit) (f_Table_at : Nat → Int32 → Int32 → M Int32) (y : Int32 × Int32) : wf (β := (Int32 × Int32) ⊕ (Int32)) L X q_Riddles_groups 1 (cs_Riddles_groups f_Riddles_groupOf f_Riddles_rename f_Table_at) [1, 2, 3, 4] [2, 21, 26] (fun pc ls st => mC (Nat.beq pc 26) (mN st <| gI ls 1 fun a1 => gI ls 2 fun a2 => gD ls 3 <| gD ls 4 <| rt (.inl (a1, a2))) (fl)) (fun v => match v with | some (_, .int x) => rt (.inr x) | _ => fl) 69 26 [(106, .ref 195), (0, .int y.1), (0, .int y.2), (0, dV), (0, dV)] [] = (bn (rd 29 3) fun v1 =>
  (if y.2 < v1 then
    bn (f_Table_at 29 y.2 (0 : Int32)) fun v2 =>
    bn (f_Riddles_groupOf v2) fun v3 =>
    bn (f_Table_at 29 y.2 (1 : Int32)) fun v4 =>
    bn (f_Riddles_groupOf v4) fun v5 =>
    bn (f_Table_at 29 y.2 (2 : Int32)) fun v6 =>
    (if v6 = (1 : Int32) then
      (if v3 = v5 then
        rt (.inl (y.1, (y.2 + (1 : Int32))))
      else
        bn (f_Riddles_rename (if v3 < v5 then v5 else v3) (if v5 < v3 then v5 else v3)) fun _ =>
        rt (.inl ((y.1 + (-1 : Int32)), (y.2 + (1 : Int32)))))
    else
      rt (.inl (y.1, (y.2 + (1 : Int32)))))
  else
    rt (.inr y.1))) := rfl
theorem b_Riddles_groups_26 {d : Nat} (hcs : AllS L X d (cs_Riddles_groups F_Riddles_groupOf F_Riddles_rename F_Table_at)) {o : Option Value × PH} {Q : ((Int32 × Int32) ⊕ (Int32)) → MI → Prop} (qb : ∀ y I, Q (.inl y) I → At L X (d + 1) 134 26 [(106, .ref 195), (0, .int y.1), (0, .int y.2), (0, dV), (0, dV)] [] I o) (qr : ∀ v I, Q (.inr v) I → o = (some (.int v), HH I)) (y : Int32 × Int32) (I : MI) (r : (Int32 × Int32) ⊕ (Int32)) (I1 : MI) (h : B_Riddles_groups_26 y I = some (r, I1)) (hq : Q r I1) : At L X (d + 1) 134 26 [(106, .ref 195), (0, .int y.1), (0, .int y.2), (0, dV), (0, dV)] [] I o := by
  refine wf_ok z_Riddles_groups hcs ?_ ?_ _ _ _ _ _ ⟨rfl, trivial, trivial, trivial, trivial, trivial⟩ trivial (unm_refl _ _) ((congrFun (e_b_Riddles_groups_26 (L := L) (X := X) F_Riddles_groupOf F_Riddles_rename F_Table_at y) I).trans h)
  · intro pc ls st I2 h1 h2 h3 h
    rcases mC_ok h with ⟨hb, h⟩ | ⟨_, h⟩
    · have e := Nat.eq_of_beq_eq_true hb
      subst e
      obtain ⟨hst, h⟩ := mN_ok h
      subst hst
      obtain ⟨a1, n1, h⟩ := gI_ok h
      obtain ⟨a2, n2, h⟩ := gI_ok h
      obtain ⟨n3, h⟩ := gD_ok h
      obtain ⟨n4, h⟩ := gD_ok h
      refine at_leaf (ls2 := [(106, .ref 195), (0, .int a1), (0, .int a2), (0, dV), (0, dV)]) h3.1 ⟨Or.inr ⟨_, (h3.2 0 rfl).trans rfl⟩, Or.inr n1, Or.inr n2, Or.inl ⟨rfl, n3⟩, Or.inl ⟨rfl, n4⟩, trivial⟩ ?_
      cases h; exact qb _ _ hq
    cases h
  · intro v I2 _ h
    split at h
    · cases h; exact qr _ _ hq
    · cases h
def K_Riddles_groups_26 (x1 : Int32) (x2 : Int32) : M (Int32) :=
  lp (B_Riddles_groups_26) FU (x1, x2)
theorem s_Riddles_groups_26 {d : Nat} (hcs : AllS L X d (cs_Riddles_groups F_Riddles_groupOf F_Riddles_rename F_Table_at)) (x1 : Int32) (x2 : Int32) {o : Option Value × PH} {Q : (Int32) → MI → Prop} (q0 : ∀ v I, Q v I → o = (some (.int v), HH I)) (I : MI) (r : Int32) (I1 : MI) (h : K_Riddles_groups_26 x1 x2 I = some (r, I1)) (hq : Q r I1) : At L X (d + 1) 134 26 [(106, .ref 195), (0, .int x1), (0, .int x2), (0, dV), (0, dV)] [] I o := by
  unfold K_Riddles_groups_26 at h
  have w0 := fun w => at_lp (body := B_Riddles_groups_26) (P := (fun (y : Int32 × Int32) I => At L X (d + 1) 134 26 [(106, .ref 195), (0, .int y.1), (0, .int y.2), (0, dV), (0, dV)] [] I o)) (Q := (fun (e : Int32) I => Q e I)) w FU (x1, x2) I r I1 h hq
  refine w0 ?_
  intro y I r I1 h hq
  exact b_Riddles_groups_26 hcs (Q := SQ (fun (y : Int32 × Int32) I => At L X (d + 1) 134 26 [(106, .ref 195), (0, .int y.1), (0, .int y.2), (0, dV), (0, dV)] [] I o) (fun (e : Int32) I => Q e I)) (fun _ _ w => w) q0 y I r I1 h hq
def K_Riddles_groups_21 : M (Int32) :=
  K_Riddles_groups_26 (10 : Int32) (0 : Int32)
set_option maxRecDepth 4000 in
theorem e_s_Riddles_groups_21 (f_Riddles_groupOf : Int32 → M Int32) (f_Riddles_rename : Int32 → Int32 → M Unit) (f_Table_at : Nat → Int32 → Int32 → M Int32) (k_26 : Int32 → Int32 → M (Int32)) : wf (β := Int32) L X q_Riddles_groups 1 (cs_Riddles_groups f_Riddles_groupOf f_Riddles_rename f_Table_at) [1, 2] [2, 21, 26] (fun pc ls st => mC (Nat.beq pc 26) (mN st <| gI ls 1 fun a1 => gI ls 2 fun a2 => gD ls 3 <| gD ls 4 <| k_26 a1 a2) (fl)) (fun v => match v with | some (_, .int x) => rt x | _ => fl) 69 21 [(106, .ref 195), (0, dV), (0, dV), (0, dV), (0, dV)] [] = (k_26 (10 : Int32) (0 : Int32)) := rfl
theorem s_Riddles_groups_21 {d : Nat} (hcs : AllS L X d (cs_Riddles_groups F_Riddles_groupOf F_Riddles_rename F_Table_at)) {o : Option Value × PH} {Q : (Int32) → MI → Prop} (q0 : ∀ v I, Q v I → o = (some (.int v), HH I)) (I : MI) (r : Int32) (I1 : MI) (h : K_Riddles_groups_21 I = some (r, I1)) (hq : Q r I1) : At L X (d + 1) 134 21 [(106, .ref 195), (0, dV), (0, dV), (0, dV), (0, dV)] [] I o := by
  refine wf_ok z_Riddles_groups hcs ?_ ?_ _ _ _ _ _ ⟨rfl, trivial, trivial, trivial, trivial, trivial⟩ trivial (unm_refl _ _) ((congrFun (e_s_Riddles_groups_21 (L := L) (X := X) F_Riddles_groupOf F_Riddles_rename F_Table_at K_Riddles_groups_26) I).trans h)
  · intro pc ls st I2 h1 h2 h3 h
    rcases mC_ok h with ⟨hb, h⟩ | ⟨_, h⟩
    · have e := Nat.eq_of_beq_eq_true hb
      subst e
      obtain ⟨hst, h⟩ := mN_ok h
      subst hst
      obtain ⟨a1, n1, h⟩ := gI_ok h
      obtain ⟨a2, n2, h⟩ := gI_ok h
      obtain ⟨n3, h⟩ := gD_ok h
      obtain ⟨n4, h⟩ := gD_ok h
      refine at_leaf (ls2 := [(106, .ref 195), (0, .int a1), (0, .int a2), (0, dV), (0, dV)]) h3.1 ⟨Or.inr ⟨_, (h3.2 0 rfl).trans rfl⟩, Or.inr n1, Or.inr n2, Or.inl ⟨rfl, n3⟩, Or.inl ⟨rfl, n4⟩, trivial⟩ ?_
      exact s_Riddles_groups_26 hcs a1 a2 q0 _ _ _ h hq
    cases h
  · intro v I2 _ h
    split at h
    · cases h; exact q0 _ _ hq
    · cases h
def K_Riddles_groups_2 (x1 : Int32) : M (Int32) :=
  bn (lp (B_Riddles_groups_2) FU x1) fun e => K_Riddles_groups_21
theorem s_Riddles_groups_2 {d : Nat} (hcs : AllS L X d (cs_Riddles_groups F_Riddles_groupOf F_Riddles_rename F_Table_at)) (x1 : Int32) {o : Option Value × PH} {Q : (Int32) → MI → Prop} (q0 : ∀ v I, Q v I → o = (some (.int v), HH I)) (I : MI) (r : Int32) (I1 : MI) (h : K_Riddles_groups_2 x1 I = some (r, I1)) (hq : Q r I1) : At L X (d + 1) 134 2 [(106, .ref 195), (0, .int x1), (0, dV), (0, dV), (0, dV)] [] I o := by
  unfold K_Riddles_groups_2 at h
  obtain ⟨e, I2, h1, h2⟩ := bn_some h
  have w0 := fun w => at_lp (body := B_Riddles_groups_2) (P := (fun (y : Int32) I => At L X (d + 1) 134 2 [(106, .ref 195), (0, .int y), (0, dV), (0, dV), (0, dV)] [] I o)) (Q := (fun (e : (Unit)) I => (K_Riddles_groups_21) I = some (r, I1))) w FU x1 I e I2 h1 h2
  refine w0 ?_
  intro y I r2 I3 h hq2
  exact b_Riddles_groups_2 hcs (Q := SQ (fun (y : Int32) I => At L X (d + 1) 134 2 [(106, .ref 195), (0, .int y), (0, dV), (0, dV), (0, dV)] [] I o) (fun (e : (Unit)) I => (K_Riddles_groups_21) I = some (r, I1))) (fun _ _ w => w) (fun y I w => s_Riddles_groups_21 hcs q0 _ _ _ w hq) y I r2 I3 h hq2
def F_Riddles_groups : M (Int32) :=
  K_Riddles_groups_2 (0 : Int32)
set_option maxRecDepth 4000 in
theorem e_s_Riddles_groups_0 (f_Riddles_groupOf : Int32 → M Int32) (f_Riddles_rename : Int32 → Int32 → M Unit) (f_Table_at : Nat → Int32 → Int32 → M Int32) (k_2 : Int32 → M (Int32)) : wf (β := Int32) L X q_Riddles_groups 1 (cs_Riddles_groups f_Riddles_groupOf f_Riddles_rename f_Table_at) [1] [2, 21, 26] (fun pc ls st => mC (Nat.beq pc 2) (mN st <| gI ls 1 fun a1 => gD ls 2 <| gD ls 3 <| gD ls 4 <| k_2 a1) (fl)) (fun v => match v with | some (_, .int x) => rt x | _ => fl) 69 0 [(106, .ref 195), (0, dV), (0, dV), (0, dV), (0, dV)] [] = (k_2 (0 : Int32)) := rfl
theorem s_Riddles_groups_0 {d : Nat} (hcs : AllS L X d (cs_Riddles_groups F_Riddles_groupOf F_Riddles_rename F_Table_at)) {o : Option Value × PH} {Q : (Int32) → MI → Prop} (q0 : ∀ v I, Q v I → o = (some (.int v), HH I)) (I : MI) (r : Int32) (I1 : MI) (h : F_Riddles_groups I = some (r, I1)) (hq : Q r I1) : At L X (d + 1) 134 0 [(106, .ref 195), (0, dV), (0, dV), (0, dV), (0, dV)] [] I o := by
  refine wf_ok z_Riddles_groups hcs ?_ ?_ _ _ _ _ _ ⟨rfl, trivial, trivial, trivial, trivial, trivial⟩ trivial (unm_refl _ _) ((congrFun (e_s_Riddles_groups_0 (L := L) (X := X) F_Riddles_groupOf F_Riddles_rename F_Table_at K_Riddles_groups_2) I).trans h)
  · intro pc ls st I2 h1 h2 h3 h
    rcases mC_ok h with ⟨hb, h⟩ | ⟨_, h⟩
    · have e := Nat.eq_of_beq_eq_true hb
      subst e
      obtain ⟨hst, h⟩ := mN_ok h
      subst hst
      obtain ⟨a1, n1, h⟩ := gI_ok h
      obtain ⟨n2, h⟩ := gD_ok h
      obtain ⟨n3, h⟩ := gD_ok h
      obtain ⟨n4, h⟩ := gD_ok h
      refine at_leaf (ls2 := [(106, .ref 195), (0, .int a1), (0, dV), (0, dV), (0, dV)]) h3.1 ⟨Or.inr ⟨_, (h3.2 0 rfl).trans rfl⟩, Or.inr n1, Or.inl ⟨rfl, n2⟩, Or.inl ⟨rfl, n3⟩, Or.inl ⟨rfl, n4⟩, trivial⟩ ?_
      exact s_Riddles_groups_2 hcs a1 q0 _ _ _ h hq
    cases h
  · intro v I2 _ h
    split at h
    · cases h; exact q0 _ _ hq
    · cases h
theorem w_Riddles_groups {d : Nat} (hcs : AllS L X d (cs_Riddles_groups F_Riddles_groupOf F_Riddles_rename F_Table_at)) : Snd L X (d + 1) 134 1 (W_Riddles_groups F_Riddles_groups) := by
  refine ⟨_, z_Riddles_groups, rfl, fun β args k I r hty hlen h => ?_⟩
  unfold W_Riddles_groups at h
  split at h
  · rename_i t0 a0
    obtain ⟨hb0, h⟩ := mB_ok h
    have e0 := Nat.eq_of_beq_eq_true hb0
    have g0 : okB 106 a0 = true := e0 ▸ hty.1
    have e20 := one_106 g0
    subst e20
    obtain ⟨v, I1, h1, h2⟩ := bn_some h
    refine ⟨gf_obj (c := 6) (by decide) g0, rfl, some (0, .int v), I1, trivial, ?_, h2⟩
    exact s_Riddles_groups_0 hcs   (Q := fun w I => w = v ∧ I = I1) (fun w I q => by obtain ⟨rfl, rfl⟩ := q; rfl) I v I1 h1 ⟨rfl, rfl⟩
  · cases h
theorem S_Riddles_groups {d : Nat} (hd : 3 ≤ d) : Snd L X d 134 1 (W_Riddles_groups F_Riddles_groups) := by
  obtain ⟨e, rfl⟩ : ∃ e, d = e + 1 := ⟨d - 1, by omega⟩
  exact w_Riddles_groups ⟨S_Riddles_groupOf (by omega), S_Riddles_rename (by omega), S_Table_at (by omega), trivial⟩
set_option maxRecDepth 100000 in
theorem z_Riddles_groupsCanBe : pT[137]? = some (q_Riddles_groupsCanBe, 1, 4, 2, 6) := rfl
def W_Riddles_groupsCanBe (F : M Int32) : CSem := fun _ args k => match args with
  | [(t0, .ref a0)] => mB (Nat.beq t0 106) <| bn (F) fun v => k (some (0, .int v))
  | _ => fl
def cs_Riddles_groupsCanBe (f_Arrays_fill : Nat → Int32 → M Unit) (f_Riddles_groupOf : Int32 → M Int32) (f_Riddles_groups : M Int32) (f_Table_at : Nat → Int32 → Int32 → M Int32) : List (Nat × Nat × CSem) := [(13, 2, W_Arrays_fill f_Arrays_fill), (135, 2, W_Riddles_groupOf f_Riddles_groupOf), (134, 1, W_Riddles_groups f_Riddles_groups), (36, 3, W_Table_at f_Table_at)]
def B_Riddles_groupsCanBe_15 (y : Int32) : M ((Int32) ⊕ (Int32)) :=
  bn (rd 29 3) fun v1 =>
  (if y < v1 then
    bn (F_Table_at 29 y (2 : Int32)) fun v2 =>
    (if v2 = 0 then
      bn (F_Table_at 29 y (0 : Int32)) fun v3 =>
      bn (F_Riddles_groupOf v3) fun v4 =>
      bn (F_Table_at 29 y (1 : Int32)) fun v5 =>
      bn (F_Riddles_groupOf v5) fun v6 =>
      (if v4 = v6 then
        bn (gdZ (0 : Int32)) fun _ => rt (.inr (0 : Int32))
      else
        bn (ld 10 197 v4) fun v7 =>
        bn (sr 10 197 v4 (v7 ||| ((1 : Int32) <<< (v6 &&& 31)))) fun _ =>
        bn (ld 10 197 v6) fun v8 =>
        bn (sr 10 197 v6 (v8 ||| ((1 : Int32) <<< (v4 &&& 31)))) fun _ =>
        rt (.inl (y + (1 : Int32))))
    else
      rt (.inl (y + (1 : Int32))))
  else
    bn (gdZ (1 : Int32)) fun _ => rt (.inr (1 : Int32)))
set_option maxRecDepth 4000 in
theorem e_b_Riddles_groupsCanBe_15 (f_Arrays_fill : Nat → Int32 → M Unit) (f_Riddles_groupOf : Int32 → M Int32) (f_Riddles_groups : M Int32) (f_Table_at : Nat → Int32 → Int32 → M Int32) (y : Int32) : wf (β := (Int32) ⊕ (Int32)) L X q_Riddles_groupsCanBe 2 (cs_Riddles_groupsCanBe f_Arrays_fill f_Riddles_groupOf f_Riddles_groups f_Table_at) [1, 2, 3] [15] (fun pc ls st => mC (Nat.beq pc 15) (mN st <| gI ls 1 fun a1 => gD ls 2 <| gD ls 3 <| rt (.inl a1)) (fl)) (fun v => match v with | some (_, .int x) => rt (.inr x) | _ => fl) 74 15 [(106, .ref 195), (0, .int y), (0, dV), (0, dV)] [] = (bn (rd 29 3) fun v1 =>
  (if y < v1 then
    bn (f_Table_at 29 y (2 : Int32)) fun v2 =>
    (if v2 = 0 then
      bn (f_Table_at 29 y (0 : Int32)) fun v3 =>
      bn (f_Riddles_groupOf v3) fun v4 =>
      bn (f_Table_at 29 y (1 : Int32)) fun v5 =>
      bn (f_Riddles_groupOf v5) fun v6 =>
      (if v4 = v6 then
        bn (gdZ (0 : Int32)) fun _ => rt (.inr (0 : Int32))
      else
        bn (ld 10 197 v4) fun v7 =>
        bn (sr 10 197 v4 (v7 ||| ((1 : Int32) <<< (v6 &&& 31)))) fun _ =>
        bn (ld 10 197 v6) fun v8 =>
        bn (sr 10 197 v6 (v8 ||| ((1 : Int32) <<< (v4 &&& 31)))) fun _ =>
        rt (.inl (y + (1 : Int32))))
    else
      rt (.inl (y + (1 : Int32))))
  else
    bn (gdZ (1 : Int32)) fun _ => rt (.inr (1 : Int32)))) := rfl
theorem b_Riddles_groupsCanBe_15 {d : Nat} (hcs : AllS L X d (cs_Riddles_groupsCanBe F_Arrays_fill F_Riddles_groupOf F_Riddles_groups F_Table_at)) {o : Option Value × PH} {Q : ((Int32) ⊕ (Int32)) → MI → Prop} (qb : ∀ y I, Q (.inl y) I → At L X (d + 1) 137 15 [(106, .ref 195), (0, .int y), (0, dV), (0, dV)] [] I o) (qr : ∀ v I, Q (.inr v) I → o = (some (.int v), HH I)) (y : Int32) (I : MI) (r : (Int32) ⊕ (Int32)) (I1 : MI) (h : B_Riddles_groupsCanBe_15 y I = some (r, I1)) (hq : Q r I1) : At L X (d + 1) 137 15 [(106, .ref 195), (0, .int y), (0, dV), (0, dV)] [] I o := by
  refine wf_ok z_Riddles_groupsCanBe hcs ?_ ?_ _ _ _ _ _ ⟨rfl, trivial, trivial, trivial, trivial⟩ trivial (unm_refl _ _) ((congrFun (e_b_Riddles_groupsCanBe_15 (L := L) (X := X) F_Arrays_fill F_Riddles_groupOf F_Riddles_groups F_Table_at y) I).trans h)
  · intro pc ls st I2 h1 h2 h3 h
    rcases mC_ok h with ⟨hb, h⟩ | ⟨_, h⟩
    · have e := Nat.eq_of_beq_eq_true hb
      subst e
      obtain ⟨hst, h⟩ := mN_ok h
      subst hst
      obtain ⟨a1, n1, h⟩ := gI_ok h
      obtain ⟨n2, h⟩ := gD_ok h
      obtain ⟨n3, h⟩ := gD_ok h
      refine at_leaf (ls2 := [(106, .ref 195), (0, .int a1), (0, dV), (0, dV)]) h3.1 ⟨Or.inr ⟨_, (h3.2 0 rfl).trans rfl⟩, Or.inr n1, Or.inl ⟨rfl, n2⟩, Or.inl ⟨rfl, n3⟩, trivial⟩ ?_
      cases h; exact qb _ _ hq
    cases h
  · intro v I2 _ h
    split at h
    · cases h; exact qr _ _ hq
    · cases h
def K_Riddles_groupsCanBe_15 (x1 : Int32) : M (Int32) :=
  lp (B_Riddles_groupsCanBe_15) FU x1
theorem s_Riddles_groupsCanBe_15 {d : Nat} (hcs : AllS L X d (cs_Riddles_groupsCanBe F_Arrays_fill F_Riddles_groupOf F_Riddles_groups F_Table_at)) (x1 : Int32) {o : Option Value × PH} {Q : (Int32) → MI → Prop} (q0 : ∀ v I, Q v I → o = (some (.int v), HH I)) (I : MI) (r : Int32) (I1 : MI) (h : K_Riddles_groupsCanBe_15 x1 I = some (r, I1)) (hq : Q r I1) : At L X (d + 1) 137 15 [(106, .ref 195), (0, .int x1), (0, dV), (0, dV)] [] I o := by
  unfold K_Riddles_groupsCanBe_15 at h
  have w0 := fun w => at_lp (body := B_Riddles_groupsCanBe_15) (P := (fun (y : Int32) I => At L X (d + 1) 137 15 [(106, .ref 195), (0, .int y), (0, dV), (0, dV)] [] I o)) (Q := (fun (e : Int32) I => Q e I)) w FU x1 I r I1 h hq
  refine w0 ?_
  intro y I r I1 h hq
  exact b_Riddles_groupsCanBe_15 hcs (Q := SQ (fun (y : Int32) I => At L X (d + 1) 137 15 [(106, .ref 195), (0, .int y), (0, dV), (0, dV)] [] I o) (fun (e : Int32) I => Q e I)) (fun _ _ w => w) q0 y I r I1 h hq
def F_Riddles_groupsCanBe : M (Int32) :=
  bn (F_Riddles_groups) fun v1 =>
  bn (F_Arrays_fill 197 (0 : Int32)) fun _ =>
  K_Riddles_groupsCanBe_15 (0 : Int32)
set_option maxRecDepth 4000 in
theorem e_s_Riddles_groupsCanBe_0 (f_Arrays_fill : Nat → Int32 → M Unit) (f_Riddles_groupOf : Int32 → M Int32) (f_Riddles_groups : M Int32) (f_Table_at : Nat → Int32 → Int32 → M Int32) (k_15 : Int32 → M (Int32)) : wf (β := Int32) L X q_Riddles_groupsCanBe 2 (cs_Riddles_groupsCanBe f_Arrays_fill f_Riddles_groupOf f_Riddles_groups f_Table_at) [1] [15] (fun pc ls st => mC (Nat.beq pc 15) (mN st <| gI ls 1 fun a1 => gD ls 2 <| gD ls 3 <| k_15 a1) (fl)) (fun v => match v with | some (_, .int x) => rt x | _ => fl) 74 0 [(106, .ref 195), (0, dV), (0, dV), (0, dV)] [] = (bn (f_Riddles_groups) fun v1 =>
  bn (f_Arrays_fill 197 (0 : Int32)) fun _ =>
  k_15 (0 : Int32)) := rfl
theorem s_Riddles_groupsCanBe_0 {d : Nat} (hcs : AllS L X d (cs_Riddles_groupsCanBe F_Arrays_fill F_Riddles_groupOf F_Riddles_groups F_Table_at)) {o : Option Value × PH} {Q : (Int32) → MI → Prop} (q0 : ∀ v I, Q v I → o = (some (.int v), HH I)) (I : MI) (r : Int32) (I1 : MI) (h : F_Riddles_groupsCanBe I = some (r, I1)) (hq : Q r I1) : At L X (d + 1) 137 0 [(106, .ref 195), (0, dV), (0, dV), (0, dV)] [] I o := by
  refine wf_ok z_Riddles_groupsCanBe hcs ?_ ?_ _ _ _ _ _ ⟨rfl, trivial, trivial, trivial, trivial⟩ trivial (unm_refl _ _) ((congrFun (e_s_Riddles_groupsCanBe_0 (L := L) (X := X) F_Arrays_fill F_Riddles_groupOf F_Riddles_groups F_Table_at K_Riddles_groupsCanBe_15) I).trans h)
  · intro pc ls st I2 h1 h2 h3 h
    rcases mC_ok h with ⟨hb, h⟩ | ⟨_, h⟩
    · have e := Nat.eq_of_beq_eq_true hb
      subst e
      obtain ⟨hst, h⟩ := mN_ok h
      subst hst
      obtain ⟨a1, n1, h⟩ := gI_ok h
      obtain ⟨n2, h⟩ := gD_ok h
      obtain ⟨n3, h⟩ := gD_ok h
      refine at_leaf (ls2 := [(106, .ref 195), (0, .int a1), (0, dV), (0, dV)]) h3.1 ⟨Or.inr ⟨_, (h3.2 0 rfl).trans rfl⟩, Or.inr n1, Or.inl ⟨rfl, n2⟩, Or.inl ⟨rfl, n3⟩, trivial⟩ ?_
      exact s_Riddles_groupsCanBe_15 hcs a1 q0 _ _ _ h hq
    cases h
  · intro v I2 _ h
    split at h
    · cases h; exact q0 _ _ hq
    · cases h
theorem w_Riddles_groupsCanBe {d : Nat} (hcs : AllS L X d (cs_Riddles_groupsCanBe F_Arrays_fill F_Riddles_groupOf F_Riddles_groups F_Table_at)) : Snd L X (d + 1) 137 1 (W_Riddles_groupsCanBe F_Riddles_groupsCanBe) := by
  refine ⟨_, z_Riddles_groupsCanBe, rfl, fun β args k I r hty hlen h => ?_⟩
  unfold W_Riddles_groupsCanBe at h
  split at h
  · rename_i t0 a0
    obtain ⟨hb0, h⟩ := mB_ok h
    have e0 := Nat.eq_of_beq_eq_true hb0
    have g0 : okB 106 a0 = true := e0 ▸ hty.1
    have e20 := one_106 g0
    subst e20
    obtain ⟨v, I1, h1, h2⟩ := bn_some h
    refine ⟨gf_obj (c := 6) (by decide) g0, rfl, some (0, .int v), I1, trivial, ?_, h2⟩
    exact s_Riddles_groupsCanBe_0 hcs   (Q := fun w I => w = v ∧ I = I1) (fun w I q => by obtain ⟨rfl, rfl⟩ := q; rfl) I v I1 h1 ⟨rfl, rfl⟩
  · cases h
theorem S_Riddles_groupsCanBe {d : Nat} (hd : 4 ≤ d) : Snd L X d 137 1 (W_Riddles_groupsCanBe F_Riddles_groupsCanBe) := by
  obtain ⟨e, rfl⟩ : ∃ e, d = e + 1 := ⟨d - 1, by omega⟩
  exact w_Riddles_groupsCanBe ⟨S_Arrays_fill (by omega), S_Riddles_groupOf (by omega), S_Riddles_groups (by omega), S_Table_at (by omega), trivial⟩
set_option maxRecDepth 100000 in
theorem z_Riddles_nextApart : pT[140]? = some (q_Riddles_nextApart, 2, 3, 1, 6) := rfl
def W_Riddles_nextApart (F : Int32 → M Int32) : CSem := fun _ args k => match args with
  | [(t0, .ref a0), (_, .int a1)] => mB (Nat.beq t0 106) <| bn (F a1) fun v => k (some (0, .int v))
  | _ => fl
def cs_Riddles_nextApart : List (Nat × Nat × CSem) := []
def B_Riddles_nextApart_2 (y : Int32) : M ((Int32) ⊕ (Int32)) :=
  (if y < (10 : Int32) then
    bn (ld 10 197 y) fun v1 =>
    (if v1 = 0 then
      rt (.inl (y + (1 : Int32)))
    else
      rt (.inr y))
  else
    rt (.inr y))
set_option maxRecDepth 4000 in
theorem e_b_Riddles_nextApart_2 (y : Int32) : wf (β := (Int32) ⊕ (Int32)) L X q_Riddles_nextApart 1 cs_Riddles_nextApart [2] [2] (fun pc ls st => mC (Nat.beq pc 2) (mN st <| gD ls 1 <| gI ls 2 fun a2 => rt (.inl a2)) (fl)) (fun v => match v with | some (_, .int x) => rt (.inr x) | _ => fl) 19 2 [(106, .ref 195), (0, dV), (0, .int y)] [] = ((if y < (10 : Int32) then
    bn (ld 10 197 y) fun v1 =>
    (if v1 = 0 then
      rt (.inl (y + (1 : Int32)))
    else
      rt (.inr y))
  else
    rt (.inr y))) := rfl
theorem b_Riddles_nextApart_2 {d : Nat} (hcs : AllS L X d cs_Riddles_nextApart) {o : Option Value × PH} {Q : ((Int32) ⊕ (Int32)) → MI → Prop} (qb : ∀ y I, Q (.inl y) I → At L X (d + 1) 140 2 [(106, .ref 195), (0, dV), (0, .int y)] [] I o) (qr : ∀ v I, Q (.inr v) I → o = (some (.int v), HH I)) (y : Int32) (I : MI) (r : (Int32) ⊕ (Int32)) (I1 : MI) (h : B_Riddles_nextApart_2 y I = some (r, I1)) (hq : Q r I1) : At L X (d + 1) 140 2 [(106, .ref 195), (0, dV), (0, .int y)] [] I o := by
  refine wf_ok z_Riddles_nextApart hcs ?_ ?_ _ _ _ _ _ ⟨rfl, trivial, trivial, trivial⟩ trivial (unm_refl _ _) ((congrFun (e_b_Riddles_nextApart_2 (L := L) (X := X) y) I).trans h)
  · intro pc ls st I2 h1 h2 h3 h
    rcases mC_ok h with ⟨hb, h⟩ | ⟨_, h⟩
    · have e := Nat.eq_of_beq_eq_true hb
      subst e
      obtain ⟨hst, h⟩ := mN_ok h
      subst hst
      obtain ⟨n1, h⟩ := gD_ok h
      obtain ⟨a2, n2, h⟩ := gI_ok h
      refine at_leaf (ls2 := [(106, .ref 195), (0, dV), (0, .int a2)]) h3.1 ⟨Or.inr ⟨_, (h3.2 0 rfl).trans rfl⟩, Or.inl ⟨rfl, n1⟩, Or.inr n2, trivial⟩ ?_
      cases h; exact qb _ _ hq
    cases h
  · intro v I2 _ h
    split at h
    · cases h; exact qr _ _ hq
    · cases h
def K_Riddles_nextApart_2 (x2 : Int32) : M (Int32) :=
  lp (B_Riddles_nextApart_2) FU x2
theorem s_Riddles_nextApart_2 {d : Nat} (hcs : AllS L X d cs_Riddles_nextApart) (x2 : Int32) {o : Option Value × PH} {Q : (Int32) → MI → Prop} (q0 : ∀ v I, Q v I → o = (some (.int v), HH I)) (I : MI) (r : Int32) (I1 : MI) (h : K_Riddles_nextApart_2 x2 I = some (r, I1)) (hq : Q r I1) : At L X (d + 1) 140 2 [(106, .ref 195), (0, dV), (0, .int x2)] [] I o := by
  unfold K_Riddles_nextApart_2 at h
  have w0 := fun w => at_lp (body := B_Riddles_nextApart_2) (P := (fun (y : Int32) I => At L X (d + 1) 140 2 [(106, .ref 195), (0, dV), (0, .int y)] [] I o)) (Q := (fun (e : Int32) I => Q e I)) w FU x2 I r I1 h hq
  refine w0 ?_
  intro y I r I1 h hq
  exact b_Riddles_nextApart_2 hcs (Q := SQ (fun (y : Int32) I => At L X (d + 1) 140 2 [(106, .ref 195), (0, dV), (0, .int y)] [] I o) (fun (e : Int32) I => Q e I)) (fun _ _ w => w) q0 y I r I1 h hq
def F_Riddles_nextApart (x1 : Int32) : M (Int32) :=
  K_Riddles_nextApart_2 x1
set_option maxRecDepth 4000 in
theorem e_s_Riddles_nextApart_0 (k_2 : Int32 → M (Int32)) (x1 : Int32) : wf (β := Int32) L X q_Riddles_nextApart 1 cs_Riddles_nextApart [2] [2] (fun pc ls st => mC (Nat.beq pc 2) (mN st <| gD ls 1 <| gI ls 2 fun a2 => k_2 a2) (fl)) (fun v => match v with | some (_, .int x) => rt x | _ => fl) 19 0 [(106, .ref 195), (0, .int x1), (0, dV)] [] = (k_2 x1) := rfl
theorem s_Riddles_nextApart_0 {d : Nat} (hcs : AllS L X d cs_Riddles_nextApart) (x1 : Int32) {o : Option Value × PH} {Q : (Int32) → MI → Prop} (q0 : ∀ v I, Q v I → o = (some (.int v), HH I)) (I : MI) (r : Int32) (I1 : MI) (h : F_Riddles_nextApart x1 I = some (r, I1)) (hq : Q r I1) : At L X (d + 1) 140 0 [(106, .ref 195), (0, .int x1), (0, dV)] [] I o := by
  refine wf_ok z_Riddles_nextApart hcs ?_ ?_ _ _ _ _ _ ⟨rfl, trivial, trivial, trivial⟩ trivial (unm_refl _ _) ((congrFun (e_s_Riddles_nextApart_0 (L := L) (X := X) K_Riddles_nextApart_2 x1) I).trans h)
  · intro pc ls st I2 h1 h2 h3 h
    rcases mC_ok h with ⟨hb, h⟩ | ⟨_, h⟩
    · have e := Nat.eq_of_beq_eq_true hb
      subst e
      obtain ⟨hst, h⟩ := mN_ok h
      subst hst
      obtain ⟨n1, h⟩ := gD_ok h
      obtain ⟨a2, n2, h⟩ := gI_ok h
      refine at_leaf (ls2 := [(106, .ref 195), (0, dV), (0, .int a2)]) h3.1 ⟨Or.inr ⟨_, (h3.2 0 rfl).trans rfl⟩, Or.inl ⟨rfl, n1⟩, Or.inr n2, trivial⟩ ?_
      exact s_Riddles_nextApart_2 hcs a2 q0 _ _ _ h hq
    cases h
  · intro v I2 _ h
    split at h
    · cases h; exact q0 _ _ hq
    · cases h
theorem w_Riddles_nextApart {d : Nat} (hcs : AllS L X d cs_Riddles_nextApart) : Snd L X (d + 1) 140 2 (W_Riddles_nextApart F_Riddles_nextApart) := by
  refine ⟨_, z_Riddles_nextApart, rfl, fun β args k I r hty hlen h => ?_⟩
  unfold W_Riddles_nextApart at h
  split at h
  · rename_i t0 a0 u1 a1
    obtain ⟨hb0, h⟩ := mB_ok h
    have e0 := Nat.eq_of_beq_eq_true hb0
    have g0 : okB 106 a0 = true := e0 ▸ hty.1
    have e20 := one_106 g0
    subst e20
    obtain ⟨v, I1, h1, h2⟩ := bn_some h
    refine ⟨gf_obj (c := 6) (by decide) g0, rfl, some (0, .int v), I1, trivial, ?_, h2⟩
    exact s_Riddles_nextApart_0 hcs a1  (Q := fun w I => w = v ∧ I = I1) (fun w I q => by obtain ⟨rfl, rfl⟩ := q; rfl) I v I1 h1 ⟨rfl, rfl⟩
  · cases h
theorem S_Riddles_nextApart {d : Nat} (hd : 1 ≤ d) : Snd L X d 140 2 (W_Riddles_nextApart F_Riddles_nextApart) := by
  obtain ⟨e, rfl⟩ : ∃ e, d = e + 1 := ⟨d - 1, by omega⟩
  exact w_Riddles_nextApart trivial
end
