/-! methods (written by wip/tools/gen_f.py) -/
section
variable {L : Nat} {X : Nat → Int32}
set_option maxRecDepth 100000 in
theorem z_R_writes : pT[253]? = some (q_R_writes, 4, 5, 0, 12) := rfl
def W_R_writes (F : Int32 → Int32 → Int32 → M Unit) : CSem := fun _ args k => match args with
  | [(t0, .ref a0), (_, .int a1), (_, .int a2), (_, .int a3)] => mB (Nat.beq t0 112) <| bn (F a1 a2 a3) fun _ => k none
  | _ => fl
def cs_R_writes : List (Nat × Nat × CSem) := []
def F_R_writes (x1 : Int32) (x2 : Int32) (x3 : Int32) : M (Unit) :=
  bn (rd 207 5) fun v1 =>
  (if v1 = 0 then
    bn (ld 95 208 (3 : Int32)) fun v2 =>
    (if v2 = (150 : Int32) then
      rt ()
    else
      bn (ld 95 208 (3 : Int32)) fun v3 =>
      bn (ld 95 208 (0 : Int32)) fun v4 =>
      bn (sr 750 215 ((5 : Int32) * v3) v4) fun _ =>
      bn (ld 95 208 (1 : Int32)) fun v5 =>
      bn (sr 750 215 (((5 : Int32) * v3) + (1 : Int32)) v5) fun _ =>
      bn (sr 750 215 (((5 : Int32) * v3) + (2 : Int32)) x1) fun _ =>
      bn (sr 750 215 (((5 : Int32) * v3) + (3 : Int32)) x2) fun _ =>
      bn (sr 750 215 (((5 : Int32) * v3) + (4 : Int32)) x3) fun _ =>
      bn (ld 95 208 (3 : Int32)) fun v6 =>
      bn (sr 95 208 (3 : Int32) (v6 + (1 : Int32))) fun _ =>
      rt ())
  else
    rt ())
set_option maxRecDepth 4000 in
theorem e_s_R_writes_0 (x1 : Int32) (x2 : Int32) (x3 : Int32) : wf (β := Unit) L X q_R_writes 0 cs_R_writes [4] [] (fun _ _ _ => fl) (fun v => match v with | none => rt () | _ => fl) 72 0 [(112, .ref 207), (0, .int x1), (0, .int x2), (0, .int x3), (0, dV)] [] = (bn (rd 207 5) fun v1 =>
  (if v1 = 0 then
    bn (ld 95 208 (3 : Int32)) fun v2 =>
    (if v2 = (150 : Int32) then
      rt ()
    else
      bn (ld 95 208 (3 : Int32)) fun v3 =>
      bn (ld 95 208 (0 : Int32)) fun v4 =>
      bn (sr 750 215 ((5 : Int32) * v3) v4) fun _ =>
      bn (ld 95 208 (1 : Int32)) fun v5 =>
      bn (sr 750 215 (((5 : Int32) * v3) + (1 : Int32)) v5) fun _ =>
      bn (sr 750 215 (((5 : Int32) * v3) + (2 : Int32)) x1) fun _ =>
      bn (sr 750 215 (((5 : Int32) * v3) + (3 : Int32)) x2) fun _ =>
      bn (sr 750 215 (((5 : Int32) * v3) + (4 : Int32)) x3) fun _ =>
      bn (ld 95 208 (3 : Int32)) fun v6 =>
      bn (sr 95 208 (3 : Int32) (v6 + (1 : Int32))) fun _ =>
      rt ())
  else
    rt ())) := rfl
theorem s_R_writes_0 {d : Nat} (hcs : AllS L X d cs_R_writes) (x1 : Int32) (x2 : Int32) (x3 : Int32) {o : Option Value × PH} {Q : (Unit) → MI → Prop} (q0 : ∀ v I, Q v I → o = (none, HH I)) (I : MI) (r : Unit) (I1 : MI) (h : F_R_writes x1 x2 x3 I = some (r, I1)) (hq : Q r I1) : At L X (d + 1) 253 0 [(112, .ref 207), (0, .int x1), (0, .int x2), (0, .int x3), (0, dV)] [] I o := by
  refine wf_ok z_R_writes hcs ?_ ?_ _ _ _ _ _ ⟨rfl, trivial, trivial, trivial, trivial, trivial⟩ trivial (unm_refl _ _) ((congrFun (e_s_R_writes_0 (L := L) (X := X) x1 x2 x3) I).trans h)
  · intro pc ls st I2 h1 h2 h3 h
    cases h
  · intro v I2 _ h
    split at h
    · cases h; exact q0 _ _ hq
    · cases h
theorem w_R_writes {d : Nat} (hcs : AllS L X d cs_R_writes) : Snd L X (d + 1) 253 4 (W_R_writes F_R_writes) := by
  refine ⟨_, z_R_writes, rfl, fun β args k I r hty hlen h => ?_⟩
  unfold W_R_writes at h
  split at h
  · rename_i t0 a0 u1 a1 u2 a2 u3 a3
    obtain ⟨hb0, h⟩ := mB_ok h
    have e0 := Nat.eq_of_beq_eq_true hb0
    have g0 : okB 112 a0 = true := e0 ▸ hty.1
    have e20 := one_112 g0
    subst e20
    obtain ⟨v, I1, h1, h2⟩ := bn_some h
    refine ⟨gf_obj (c := 12) (by decide) g0, rfl, none, I1, trivial, ?_, h2⟩
    exact s_R_writes_0 hcs a1 a2 a3  (Q := fun w I => w = v ∧ I = I1) (fun w I q => by obtain ⟨rfl, rfl⟩ := q; rfl) I v I1 h1 ⟨rfl, rfl⟩
  · cases h
theorem S_R_writes {d : Nat} (hd : 1 ≤ d) : Snd L X d 253 4 (W_R_writes F_R_writes) := by
  obtain ⟨e, rfl⟩ : ∃ e, d = e + 1 := ⟨d - 1, by omega⟩
  exact w_R_writes trivial
set_option maxRecDepth 100000 in
theorem z_R_act : pT[270]? = some (q_R_act, 4, 5, 2, 12) := rfl
def W_R_act (F : Int32 → Int32 → Int32 → M Int32) : CSem := fun _ args k => match args with
  | [(t0, .ref a0), (_, .int a1), (_, .int a2), (_, .int a3)] => mB (Nat.beq t0 112) <| bn (F a1 a2 a3) fun v => k (some (0, .int v))
  | _ => fl
def cs_R_act (f_R_canAct : Int32 → Int32 → Int32 → M Int32) (f_R_goesHome : Int32 → M Unit) (f_R_goesOut : Int32 → Int32 → M Unit) (f_R_keepsAhead : M Unit) (f_R_lesser : Int32 → Int32 → M Int32) (f_R_writes : Int32 → Int32 → Int32 → M Unit) : List (Nat × Nat × CSem) := [(271, 4, W_R_canAct f_R_canAct), (249, 2, W_R_goesHome f_R_goesHome), (247, 3, W_R_goesOut f_R_goesOut), (243, 1, W_R_keepsAhead f_R_keepsAhead), (248, 3, W_R_lesser f_R_lesser), (253, 4, W_R_writes f_R_writes)]
def K_R_act_41 (x1 : Int32) (x2 : Int32) : M (Int32) :=
  (if x1 = (2 : Int32) then
    bn (ld 95 208 ((17 : Int32) + x2)) fun v1 =>
    bn (ld 95 208 (4 : Int32)) fun v2 =>
    bn (F_R_lesser v1 v2) fun v3 =>
    bn (ld 95 208 ((17 : Int32) + x2)) fun v4 =>
    bn (sr 95 208 ((17 : Int32) + x2) (v4 - v3)) fun _ =>
    bn (ld 95 208 (4 : Int32)) fun v5 =>
    bn (sr 95 208 (4 : Int32) (v5 - v3)) fun _ =>
    bn (F_R_writes (4 : Int32) x2 v3) fun _ =>
    bn (gdZ (1 : Int32)) fun _ => rt (1 : Int32)
  else
    bn (gdZ (1 : Int32)) fun _ => rt (1 : Int32))
set_option maxRecDepth 4000 in
theorem e_s_R_act_41 (f_R_canAct : Int32 → Int32 → Int32 → M Int32) (f_R_goesHome : Int32 → M Unit) (f_R_goesOut : Int32 → Int32 → M Unit) (f_R_keepsAhead : M Unit) (f_R_lesser : Int32 → Int32 → M Int32) (f_R_writes : Int32 → Int32 → Int32 → M Unit) (x1 : Int32) (x2 : Int32) : wf (β := Int32) L X q_R_act 2 (cs_R_act f_R_canAct f_R_goesHome f_R_goesOut f_R_keepsAhead f_R_lesser f_R_writes) [4] [41] (fun _ _ _ => fl) (fun v => match v with | some (_, .int x) => rt x | _ => fl) 79 41 [(112, .ref 207), (0, .int x1), (0, .int x2), (0, dV), (0, dV)] [] = ((if x1 = (2 : Int32) then
    bn (ld 95 208 ((17 : Int32) + x2)) fun v1 =>
    bn (ld 95 208 (4 : Int32)) fun v2 =>
    bn (f_R_lesser v1 v2) fun v3 =>
    bn (ld 95 208 ((17 : Int32) + x2)) fun v4 =>
    bn (sr 95 208 ((17 : Int32) + x2) (v4 - v3)) fun _ =>
    bn (ld 95 208 (4 : Int32)) fun v5 =>
    bn (sr 95 208 (4 : Int32) (v5 - v3)) fun _ =>
    bn (f_R_writes (4 : Int32) x2 v3) fun _ =>
    bn (gdZ (1 : Int32)) fun _ => rt (1 : Int32)
  else
    bn (gdZ (1 : Int32)) fun _ => rt (1 : Int32))) := rfl
theorem s_R_act_41 {d : Nat} (hcs : AllS L X d (cs_R_act F_R_canAct F_R_goesHome F_R_goesOut F_R_keepsAhead F_R_lesser F_R_writes)) (x1 : Int32) (x2 : Int32) {o : Option Value × PH} {Q : (Int32) → MI → Prop} (q0 : ∀ v I, Q v I → o = (some (.int v), HH I)) (I : MI) (r : Int32) (I1 : MI) (h : K_R_act_41 x1 x2 I = some (r, I1)) (hq : Q r I1) : At L X (d + 1) 270 41 [(112, .ref 207), (0, .int x1), (0, .int x2), (0, dV), (0, dV)] [] I o := by
  refine wf_ok z_R_act hcs ?_ ?_ _ _ _ _ _ ⟨rfl, trivial, trivial, trivial, trivial, trivial⟩ trivial (unm_refl _ _) ((congrFun (e_s_R_act_41 (L := L) (X := X) F_R_canAct F_R_goesHome F_R_goesOut F_R_keepsAhead F_R_lesser F_R_writes x1 x2) I).trans h)
  · intro pc ls st I2 h1 h2 h3 h
    cases h
  · intro v I2 _ h
    split at h
    · cases h; exact q0 _ _ hq
    · cases h
def F_R_act (x1 : Int32) (x2 : Int32) (x3 : Int32) : M (Int32) :=
  bn (wr 207 0 (0 : Int32)) fun _ =>
  bn (F_R_canAct x1 x2 x3) fun v1 =>
  (if v1 = 0 then
    bn (gdZ (0 : Int32)) fun _ => rt (0 : Int32)
  else
    bn (F_R_keepsAhead) fun _ =>
    (if x1 = 0 then
      bn (F_R_goesOut x2 x3) fun _ =>
      (if x1 = (1 : Int32) then
        bn (F_R_goesHome x2) fun _ =>
        K_R_act_41 x1 x2
      else
        K_R_act_41 x1 x2)
    else
      (if x1 = (1 : Int32) then
        bn (F_R_goesHome x2) fun _ =>
        K_R_act_41 x1 x2
      else
        K_R_act_41 x1 x2)))
set_option maxRecDepth 4000 in
theorem e_s_R_act_0 (f_R_canAct : Int32 → Int32 → Int32 → M Int32) (f_R_goesHome : Int32 → M Unit) (f_R_goesOut : Int32 → Int32 → M Unit) (f_R_keepsAhead : M Unit) (f_R_lesser : Int32 → Int32 → M Int32) (f_R_writes : Int32 → Int32 → Int32 → M Unit) (k_41 : Int32 → Int32 → M (Int32)) (x1 : Int32) (x2 : Int32) (x3 : Int32) : wf (β := Int32) L X q_R_act 2 (cs_R_act f_R_canAct f_R_goesHome f_R_goesOut f_R_keepsAhead f_R_lesser f_R_writes) [] [41] (fun pc ls st => mC (Nat.beq pc 41) (mN st <| gD ls 3 <| gD ls 4 <| k_41 x1 x2) (fl)) (fun v => match v with | some (_, .int x) => rt x | _ => fl) 79 0 [(112, .ref 207), (0, .int x1), (0, .int x2), (0, .int x3), (0, dV)] [] = (bn (wr 207 0 (0 : Int32)) fun _ =>
  bn (f_R_canAct x1 x2 x3) fun v1 =>
  (if v1 = 0 then
    bn (gdZ (0 : Int32)) fun _ => rt (0 : Int32)
  else
    bn (f_R_keepsAhead) fun _ =>
    (if x1 = 0 then
      bn (f_R_goesOut x2 x3) fun _ =>
      (if x1 = (1 : Int32) then
        bn (f_R_goesHome x2) fun _ =>
        k_41 x1 x2
      else
        k_41 x1 x2)
    else
      (if x1 = (1 : Int32) then
        bn (f_R_goesHome x2) fun _ =>
        k_41 x1 x2
      else
        k_41 x1 x2)))) := rfl
theorem s_R_act_0 {d : Nat} (hcs : AllS L X d (cs_R_act F_R_canAct F_R_goesHome F_R_goesOut F_R_keepsAhead F_R_lesser F_R_writes)) (x1 : Int32) (x2 : Int32) (x3 : Int32) {o : Option Value × PH} {Q : (Int32) → MI → Prop} (q0 : ∀ v I, Q v I → o = (some (.int v), HH I)) (I : MI) (r : Int32) (I1 : MI) (h : F_R_act x1 x2 x3 I = some (r, I1)) (hq : Q r I1) : At L X (d + 1) 270 0 [(112, .ref 207), (0, .int x1), (0, .int x2), (0, .int x3), (0, dV)] [] I o := by
  refine wf_ok z_R_act hcs ?_ ?_ _ _ _ _ _ ⟨rfl, trivial, trivial, trivial, trivial, trivial⟩ trivial (unm_refl _ _) ((congrFun (e_s_R_act_0 (L := L) (X := X) F_R_canAct F_R_goesHome F_R_goesOut F_R_keepsAhead F_R_lesser F_R_writes K_R_act_41 x1 x2 x3) I).trans h)
  · intro pc ls st I2 h1 h2 h3 h
    rcases mC_ok h with ⟨hb, h⟩ | ⟨_, h⟩
    · have e := Nat.eq_of_beq_eq_true hb
      subst e
      obtain ⟨hst, h⟩ := mN_ok h
      subst hst
      obtain ⟨n3, h⟩ := gD_ok h
      obtain ⟨n4, h⟩ := gD_ok h
      refine at_leaf (ls2 := [(112, .ref 207), (0, .int x1), (0, .int x2), (0, dV), (0, dV)]) h3.1 ⟨Or.inr ⟨_, (h3.2 0 rfl).trans rfl⟩, Or.inr ⟨_, (h3.2 1 rfl).trans rfl⟩, Or.inr ⟨_, (h3.2 2 rfl).trans rfl⟩, Or.inl ⟨rfl, n3⟩, Or.inl ⟨rfl, n4⟩, trivial⟩ ?_
      exact s_R_act_41 hcs x1 x2 q0 _ _ _ h hq
    cases h
  · intro v I2 _ h
    split at h
    · cases h; exact q0 _ _ hq
    · cases h
theorem w_R_act {d : Nat} (hcs : AllS L X d (cs_R_act F_R_canAct F_R_goesHome F_R_goesOut F_R_keepsAhead F_R_lesser F_R_writes)) : Snd L X (d + 1) 270 4 (W_R_act F_R_act) := by
  refine ⟨_, z_R_act, rfl, fun β args k I r hty hlen h => ?_⟩
  unfold W_R_act at h
  split at h
  · rename_i t0 a0 u1 a1 u2 a2 u3 a3
    obtain ⟨hb0, h⟩ := mB_ok h
    have e0 := Nat.eq_of_beq_eq_true hb0
    have g0 : okB 112 a0 = true := e0 ▸ hty.1
    have e20 := one_112 g0
    subst e20
    obtain ⟨v, I1, h1, h2⟩ := bn_some h
    refine ⟨gf_obj (c := 12) (by decide) g0, rfl, some (0, .int v), I1, trivial, ?_, h2⟩
    exact s_R_act_0 hcs a1 a2 a3  (Q := fun w I => w = v ∧ I = I1) (fun w I q => by obtain ⟨rfl, rfl⟩ := q; rfl) I v I1 h1 ⟨rfl, rfl⟩
  · cases h
theorem S_R_act {d : Nat} (hd : 3 ≤ d) : Snd L X d 270 4 (W_R_act F_R_act) := by
  obtain ⟨e, rfl⟩ : ∃ e, d = e + 1 := ⟨d - 1, by omega⟩
  exact w_R_act ⟨S_R_canAct (by omega), S_R_goesHome (by omega), S_R_goesOut (by omega), S_R_keepsAhead (by omega), S_R_lesser (by omega), S_R_writes (by omega), trivial⟩
set_option maxRecDepth 100000 in
theorem z_R_isIn : pT[195]? = some (q_R_isIn, 4, 4, 2, 12) := rfl
def W_R_isIn (F : Int32 → Int32 → Int32 → M Int32) : CSem := fun _ args k => match args with
  | [(t0, .ref a0), (_, .int a1), (_, .int a2), (_, .int a3)] => mB (Nat.beq t0 112) <| bn (F a1 a2 a3) fun v => k (some (0, .int v))
  | _ => fl
def cs_R_isIn : List (Nat × Nat × CSem) := []
def F_R_isIn (x1 : Int32) (x2 : Int32) (x3 : Int32) : M (Int32) :=
  (if x1 < x2 then
    bn (gdZ (0 : Int32)) fun _ => rt (0 : Int32)
  else
    (if x3 < x1 then
      bn (gdZ (0 : Int32)) fun _ => rt (0 : Int32)
    else
      bn (gdZ (1 : Int32)) fun _ => rt (1 : Int32)))
set_option maxRecDepth 4000 in
theorem e_s_R_isIn_0 (x1 : Int32) (x2 : Int32) (x3 : Int32) : wf (β := Int32) L X q_R_isIn 2 cs_R_isIn [] [] (fun _ _ _ => fl) (fun v => match v with | some (_, .int x) => rt x | _ => fl) 15 0 [(112, .ref 207), (0, .int x1), (0, .int x2), (0, .int x3)] [] = ((if x1 < x2 then
    bn (gdZ (0 : Int32)) fun _ => rt (0 : Int32)
  else
    (if x3 < x1 then
      bn (gdZ (0 : Int32)) fun _ => rt (0 : Int32)
    else
      bn (gdZ (1 : Int32)) fun _ => rt (1 : Int32)))) := rfl
theorem s_R_isIn_0 {d : Nat} (hcs : AllS L X d cs_R_isIn) (x1 : Int32) (x2 : Int32) (x3 : Int32) {o : Option Value × PH} {Q : (Int32) → MI → Prop} (q0 : ∀ v I, Q v I → o = (some (.int v), HH I)) (I : MI) (r : Int32) (I1 : MI) (h : F_R_isIn x1 x2 x3 I = some (r, I1)) (hq : Q r I1) : At L X (d + 1) 195 0 [(112, .ref 207), (0, .int x1), (0, .int x2), (0, .int x3)] [] I o := by
  refine wf_ok z_R_isIn hcs ?_ ?_ _ _ _ _ _ ⟨rfl, trivial, trivial, trivial, trivial⟩ trivial (unm_refl _ _) ((congrFun (e_s_R_isIn_0 (L := L) (X := X) x1 x2 x3) I).trans h)
  · intro pc ls st I2 h1 h2 h3 h
    cases h
  · intro v I2 _ h
    split at h
    · cases h; exact q0 _ _ hq
    · cases h
theorem w_R_isIn {d : Nat} (hcs : AllS L X d cs_R_isIn) : Snd L X (d + 1) 195 4 (W_R_isIn F_R_isIn) := by
  refine ⟨_, z_R_isIn, rfl, fun β args k I r hty hlen h => ?_⟩
  unfold W_R_isIn at h
  split at h
  · rename_i t0 a0 u1 a1 u2 a2 u3 a3
    obtain ⟨hb0, h⟩ := mB_ok h
    have e0 := Nat.eq_of_beq_eq_true hb0
    have g0 : okB 112 a0 = true := e0 ▸ hty.1
    have e20 := one_112 g0
    subst e20
    obtain ⟨v, I1, h1, h2⟩ := bn_some h
    refine ⟨gf_obj (c := 12) (by decide) g0, rfl, some (0, .int v), I1, trivial, ?_, h2⟩
    exact s_R_isIn_0 hcs a1 a2 a3  (Q := fun w I => w = v ∧ I = I1) (fun w I q => by obtain ⟨rfl, rfl⟩ := q; rfl) I v I1 h1 ⟨rfl, rfl⟩
  · cases h
theorem S_R_isIn {d : Nat} (hd : 1 ≤ d) : Snd L X d 195 4 (W_R_isIn F_R_isIn) := by
  obtain ⟨e, rfl⟩ : ∃ e, d = e + 1 := ⟨d - 1, by omega⟩
  exact w_R_isIn trivial
set_option maxRecDepth 100000 in
theorem z_R_alias : pT[196]? = some (q_R_alias, 4, 4, 1, 12) := rfl
def W_R_alias (F : Int32 → Int32 → Int32 → M Int32) : CSem := fun _ args k => match args with
  | [(t0, .ref a0), (_, .int a1), (_, .int a2), (_, .int a3)] => mB (Nat.beq t0 112) <| bn (F a1 a2 a3) fun v => k (some (0, .int v))
  | _ => fl
def cs_R_alias (f_R_isIn : Int32 → Int32 → Int32 → M Int32) (f_R_isPerson : Int32 → M Int32) (f_R_isStreet : Int32 → M Int32) : List (Nat × Nat × CSem) := [(195, 4, W_R_isIn f_R_isIn), (197, 2, W_R_isPerson f_R_isPerson), (198, 2, W_R_isStreet f_R_isStreet)]
def F_R_alias (x1 : Int32) (x2 : Int32) (x3 : Int32) : M (Int32) :=
  bn (wr 207 0 (0 : Int32)) fun _ =>
  bn (F_R_isPerson x1) fun v1 =>
  (if v1 = 0 then
    rt (-1 : Int32)
  else
    bn (F_R_isIn x2 (0 : Int32) (9 : Int32)) fun v2 =>
    (if v2 = 0 then
      rt (-1 : Int32)
    else
      bn (F_R_isStreet x3) fun v3 =>
      (if v3 = 0 then
        rt (-1 : Int32)
      else
        bn (rd 207 7) fun v4 =>
        (if v4 = (18 : Int32) then
          rt (-1 : Int32)
        else
          bn (rd 207 7) fun v5 =>
          bn (sr 18 212 v5 x1) fun _ =>
          bn (rd 207 7) fun v6 =>
          bn (sr 18 213 v6 x2) fun _ =>
          bn (rd 207 7) fun v7 =>
          bn (sr 18 214 v7 x3) fun _ =>
          bn (rd 207 7) fun v8 =>
          bn (sr 95 208 ((23 : Int32) + v8) x3) fun _ =>
          bn (rd 207 7) fun v9 =>
          bn (sr 95 208 ((41 : Int32) + v9) (0 : Int32)) fun _ =>
          bn (rd 207 7) fun v10 =>
          bn (sr 95 208 ((59 : Int32) + v10) (0 : Int32)) fun _ =>
          bn (rd 207 7) fun v11 =>
          bn (sr 95 208 ((77 : Int32) + v11) (0 : Int32)) fun _ =>
          bn (rd 207 7) fun v12 =>
          bn (wr 207 7 (v12 + (1 : Int32))) fun _ =>
          bn (wr 207 3 (0 : Int32)) fun _ =>
          bn (rd 207 7) fun v13 =>
          rt (v13 - (1 : Int32))))))
set_option maxRecDepth 4000 in
theorem e_s_R_alias_0 (f_R_isIn : Int32 → Int32 → Int32 → M Int32) (f_R_isPerson : Int32 → M Int32) (f_R_isStreet : Int32 → M Int32) (x1 : Int32) (x2 : Int32) (x3 : Int32) : wf (β := Int32) L X q_R_alias 1 (cs_R_alias f_R_isIn f_R_isPerson f_R_isStreet) [] [] (fun _ _ _ => fl) (fun v => match v with | some (_, .int x) => rt x | _ => fl) 92 0 [(112, .ref 207), (0, .int x1), (0, .int x2), (0, .int x3)] [] = (bn (wr 207 0 (0 : Int32)) fun _ =>
  bn (f_R_isPerson x1) fun v1 =>
  (if v1 = 0 then
    rt (-1 : Int32)
  else
    bn (f_R_isIn x2 (0 : Int32) (9 : Int32)) fun v2 =>
    (if v2 = 0 then
      rt (-1 : Int32)
    else
      bn (f_R_isStreet x3) fun v3 =>
      (if v3 = 0 then
        rt (-1 : Int32)
      else
        bn (rd 207 7) fun v4 =>
        (if v4 = (18 : Int32) then
          rt (-1 : Int32)
        else
          bn (rd 207 7) fun v5 =>
          bn (sr 18 212 v5 x1) fun _ =>
          bn (rd 207 7) fun v6 =>
          bn (sr 18 213 v6 x2) fun _ =>
          bn (rd 207 7) fun v7 =>
          bn (sr 18 214 v7 x3) fun _ =>
          bn (rd 207 7) fun v8 =>
          bn (sr 95 208 ((23 : Int32) + v8) x3) fun _ =>
          bn (rd 207 7) fun v9 =>
          bn (sr 95 208 ((41 : Int32) + v9) (0 : Int32)) fun _ =>
          bn (rd 207 7) fun v10 =>
          bn (sr 95 208 ((59 : Int32) + v10) (0 : Int32)) fun _ =>
          bn (rd 207 7) fun v11 =>
          bn (sr 95 208 ((77 : Int32) + v11) (0 : Int32)) fun _ =>
          bn (rd 207 7) fun v12 =>
          bn (wr 207 7 (v12 + (1 : Int32))) fun _ =>
          bn (wr 207 3 (0 : Int32)) fun _ =>
          bn (rd 207 7) fun v13 =>
          rt (v13 - (1 : Int32))))))) := rfl
theorem s_R_alias_0 {d : Nat} (hcs : AllS L X d (cs_R_alias F_R_isIn F_R_isPerson F_R_isStreet)) (x1 : Int32) (x2 : Int32) (x3 : Int32) {o : Option Value × PH} {Q : (Int32) → MI → Prop} (q0 : ∀ v I, Q v I → o = (some (.int v), HH I)) (I : MI) (r : Int32) (I1 : MI) (h : F_R_alias x1 x2 x3 I = some (r, I1)) (hq : Q r I1) : At L X (d + 1) 196 0 [(112, .ref 207), (0, .int x1), (0, .int x2), (0, .int x3)] [] I o := by
  refine wf_ok z_R_alias hcs ?_ ?_ _ _ _ _ _ ⟨rfl, trivial, trivial, trivial, trivial⟩ trivial (unm_refl _ _) ((congrFun (e_s_R_alias_0 (L := L) (X := X) F_R_isIn F_R_isPerson F_R_isStreet x1 x2 x3) I).trans h)
  · intro pc ls st I2 h1 h2 h3 h
    cases h
  · intro v I2 _ h
    split at h
    · cases h; exact q0 _ _ hq
    · cases h
theorem w_R_alias {d : Nat} (hcs : AllS L X d (cs_R_alias F_R_isIn F_R_isPerson F_R_isStreet)) : Snd L X (d + 1) 196 4 (W_R_alias F_R_alias) := by
  refine ⟨_, z_R_alias, rfl, fun β args k I r hty hlen h => ?_⟩
  unfold W_R_alias at h
  split at h
  · rename_i t0 a0 u1 a1 u2 a2 u3 a3
    obtain ⟨hb0, h⟩ := mB_ok h
    have e0 := Nat.eq_of_beq_eq_true hb0
    have g0 : okB 112 a0 = true := e0 ▸ hty.1
    have e20 := one_112 g0
    subst e20
    obtain ⟨v, I1, h1, h2⟩ := bn_some h
    refine ⟨gf_obj (c := 12) (by decide) g0, rfl, some (0, .int v), I1, trivial, ?_, h2⟩
    exact s_R_alias_0 hcs a1 a2 a3  (Q := fun w I => w = v ∧ I = I1) (fun w I q => by obtain ⟨rfl, rfl⟩ := q; rfl) I v I1 h1 ⟨rfl, rfl⟩
  · cases h
theorem S_R_alias {d : Nat} (hd : 2 ≤ d) : Snd L X d 196 4 (W_R_alias F_R_alias) := by
  obtain ⟨e, rfl⟩ : ∃ e, d = e + 1 := ⟨d - 1, by omega⟩
  exact w_R_alias ⟨S_R_isIn (by omega), S_R_isPerson (by omega), S_R_isStreet (by omega), trivial⟩
set_option maxRecDepth 100000 in
theorem z_R_bed : pT[308]? = some (q_R_bed, 3, 3, 1, 12) := rfl
def W_R_bed (F : Int32 → Int32 → M Int32) : CSem := fun _ args k => match args with
  | [(t0, .ref a0), (_, .int a1), (_, .int a2)] => mB (Nat.beq t0 112) <| bn (F a1 a2) fun v => k (some (0, .int v))
  | _ => fl
def cs_R_bed (f_R_isIn : Int32 → Int32 → Int32 → M Int32) : List (Nat × Nat × CSem) := [(195, 4, W_R_isIn f_R_isIn)]
def F_R_bed (x1 : Int32) (x2 : Int32) : M (Int32) :=
  bn (wr 207 0 (0 : Int32)) fun _ =>
  (if x1 = (-1 : Int32) then
    bn (wr 207 63 (0 : Int32)) fun _ =>
    rt (0 : Int32)
  else
    bn (F_R_isIn x1 (30 : Int32) (50 : Int32)) fun v1 =>
    (if v1 = 0 then
      rt (-1 : Int32)
    else
      bn (F_R_isIn x2 x1 (50 : Int32)) fun v2 =>
      (if v2 = 0 then
        rt (-1 : Int32)
      else
        bn (rd 207 63) fun v3 =>
        (if v3 = (8 : Int32) then
          rt (-1 : Int32)
        else
          bn (rd 207 63) fun v4 =>
          bn (sr 8 245 v4 x1) fun _ =>
          bn (rd 207 63) fun v5 =>
          bn (sr 8 246 v5 x2) fun _ =>
          bn (rd 207 63) fun v6 =>
          bn (wr 207 63 (v6 + (1 : Int32))) fun _ =>
          bn (rd 207 63) fun v7 =>
          rt v7))))
set_option maxRecDepth 4000 in
theorem e_s_R_bed_0 (f_R_isIn : Int32 → Int32 → Int32 → M Int32) (x1 : Int32) (x2 : Int32) : wf (β := Int32) L X q_R_bed 1 (cs_R_bed f_R_isIn) [] [] (fun _ _ _ => fl) (fun v => match v with | some (_, .int x) => rt x | _ => fl) 55 0 [(112, .ref 207), (0, .int x1), (0, .int x2)] [] = (bn (wr 207 0 (0 : Int32)) fun _ =>
  (if x1 = (-1 : Int32) then
    bn (wr 207 63 (0 : Int32)) fun _ =>
    rt (0 : Int32)
  else
    bn (f_R_isIn x1 (30 : Int32) (50 : Int32)) fun v1 =>
    (if v1 = 0 then
      rt (-1 : Int32)
    else
      bn (f_R_isIn x2 x1 (50 : Int32)) fun v2 =>
      (if v2 = 0 then
        rt (-1 : Int32)
      else
        bn (rd 207 63) fun v3 =>
        (if v3 = (8 : Int32) then
          rt (-1 : Int32)
        else
          bn (rd 207 63) fun v4 =>
          bn (sr 8 245 v4 x1) fun _ =>
          bn (rd 207 63) fun v5 =>
          bn (sr 8 246 v5 x2) fun _ =>
          bn (rd 207 63) fun v6 =>
          bn (wr 207 63 (v6 + (1 : Int32))) fun _ =>
          bn (rd 207 63) fun v7 =>
          rt v7))))) := rfl
theorem s_R_bed_0 {d : Nat} (hcs : AllS L X d (cs_R_bed F_R_isIn)) (x1 : Int32) (x2 : Int32) {o : Option Value × PH} {Q : (Int32) → MI → Prop} (q0 : ∀ v I, Q v I → o = (some (.int v), HH I)) (I : MI) (r : Int32) (I1 : MI) (h : F_R_bed x1 x2 I = some (r, I1)) (hq : Q r I1) : At L X (d + 1) 308 0 [(112, .ref 207), (0, .int x1), (0, .int x2)] [] I o := by
  refine wf_ok z_R_bed hcs ?_ ?_ _ _ _ _ _ ⟨rfl, trivial, trivial, trivial⟩ trivial (unm_refl _ _) ((congrFun (e_s_R_bed_0 (L := L) (X := X) F_R_isIn x1 x2) I).trans h)
  · intro pc ls st I2 h1 h2 h3 h
    cases h
  · intro v I2 _ h
    split at h
    · cases h; exact q0 _ _ hq
    · cases h
theorem w_R_bed {d : Nat} (hcs : AllS L X d (cs_R_bed F_R_isIn)) : Snd L X (d + 1) 308 3 (W_R_bed F_R_bed) := by
  refine ⟨_, z_R_bed, rfl, fun β args k I r hty hlen h => ?_⟩
  unfold W_R_bed at h
  split at h
  · rename_i t0 a0 u1 a1 u2 a2
    obtain ⟨hb0, h⟩ := mB_ok h
    have e0 := Nat.eq_of_beq_eq_true hb0
    have g0 : okB 112 a0 = true := e0 ▸ hty.1
    have e20 := one_112 g0
    subst e20
    obtain ⟨v, I1, h1, h2⟩ := bn_some h
    refine ⟨gf_obj (c := 12) (by decide) g0, rfl, some (0, .int v), I1, trivial, ?_, h2⟩
    exact s_R_bed_0 hcs a1 a2  (Q := fun w I => w = v ∧ I = I1) (fun w I q => by obtain ⟨rfl, rfl⟩ := q; rfl) I v I1 h1 ⟨rfl, rfl⟩
  · cases h
theorem S_R_bed {d : Nat} (hd : 2 ≤ d) : Snd L X d 308 3 (W_R_bed F_R_bed) := by
  obtain ⟨e, rfl⟩ : ∃ e, d = e + 1 := ⟨d - 1, by omega⟩
  exact w_R_bed ⟨S_R_isIn (by omega), trivial⟩
set_option maxRecDepth 100000 in
theorem z_R_doesLie : pT[311]? = some (q_R_doesLie, 3, 3, 2, 12) := rfl
def W_R_doesLie (F : Int32 → Int32 → M Int32) : CSem := fun _ args k => match args with
  | [(t0, .ref a0), (_, .int a1), (_, .int a2)] => mB (Nat.beq t0 112) <| bn (F a1 a2) fun v => k (some (0, .int v))
  | _ => fl
def cs_R_doesLie (f_R_isIn : Int32 → Int32 → Int32 → M Int32) : List (Nat × Nat × CSem) := [(195, 4, W_R_isIn f_R_isIn)]
def F_R_doesLie (x1 : Int32) (x2 : Int32) : M (Int32) :=
  bn (ld 8 244 x1) fun v1 =>
  bn (ld 8 245 x2) fun v2 =>
  bn (ld 8 246 x2) fun v3 =>
  bn (F_R_isIn v1 v2 v3) fun v4 =>
  bn (gdZ v4) fun _ => rt v4
set_option maxRecDepth 4000 in
theorem e_s_R_doesLie_0 (f_R_isIn : Int32 → Int32 → Int32 → M Int32) (x1 : Int32) (x2 : Int32) : wf (β := Int32) L X q_R_doesLie 2 (cs_R_doesLie f_R_isIn) [] [] (fun _ _ _ => fl) (fun v => match v with | some (_, .int x) => rt x | _ => fl) 20 0 [(112, .ref 207), (0, .int x1), (0, .int x2)] [] = (bn (ld 8 244 x1) fun v1 =>
  bn (ld 8 245 x2) fun v2 =>
  bn (ld 8 246 x2) fun v3 =>
  bn (f_R_isIn v1 v2 v3) fun v4 =>
  bn (gdZ v4) fun _ => rt v4) := rfl
theorem s_R_doesLie_0 {d : Nat} (hcs : AllS L X d (cs_R_doesLie F_R_isIn)) (x1 : Int32) (x2 : Int32) {o : Option Value × PH} {Q : (Int32) → MI → Prop} (q0 : ∀ v I, Q v I → o = (some (.int v), HH I)) (I : MI) (r : Int32) (I1 : MI) (h : F_R_doesLie x1 x2 I = some (r, I1)) (hq : Q r I1) : At L X (d + 1) 311 0 [(112, .ref 207), (0, .int x1), (0, .int x2)] [] I o := by
  refine wf_ok z_R_doesLie hcs ?_ ?_ _ _ _ _ _ ⟨rfl, trivial, trivial, trivial⟩ trivial (unm_refl _ _) ((congrFun (e_s_R_doesLie_0 (L := L) (X := X) F_R_isIn x1 x2) I).trans h)
  · intro pc ls st I2 h1 h2 h3 h
    cases h
  · intro v I2 _ h
    split at h
    · cases h; exact q0 _ _ hq
    · cases h
theorem w_R_doesLie {d : Nat} (hcs : AllS L X d (cs_R_doesLie F_R_isIn)) : Snd L X (d + 1) 311 3 (W_R_doesLie F_R_doesLie) := by
  refine ⟨_, z_R_doesLie, rfl, fun β args k I r hty hlen h => ?_⟩
  unfold W_R_doesLie at h
  split at h
  · rename_i t0 a0 u1 a1 u2 a2
    obtain ⟨hb0, h⟩ := mB_ok h
    have e0 := Nat.eq_of_beq_eq_true hb0
    have g0 : okB 112 a0 = true := e0 ▸ hty.1
    have e20 := one_112 g0
    subst e20
    obtain ⟨v, I1, h1, h2⟩ := bn_some h
    refine ⟨gf_obj (c := 12) (by decide) g0, rfl, some (0, .int v), I1, trivial, ?_, h2⟩
    exact s_R_doesLie_0 hcs a1 a2  (Q := fun w I => w = v ∧ I = I1) (fun w I q => by obtain ⟨rfl, rfl⟩ := q; rfl) I v I1 h1 ⟨rfl, rfl⟩
  · cases h
theorem S_R_doesLie {d : Nat} (hd : 2 ≤ d) : Snd L X d 311 3 (W_R_doesLie F_R_doesLie) := by
  obtain ⟨e, rfl⟩ : ∃ e, d = e + 1 := ⟨d - 1, by omega⟩
  exact w_R_doesLie ⟨S_R_isIn (by omega), trivial⟩
set_option maxRecDepth 100000 in
theorem z_R_has : pT[286]? = some (q_R_has, 3, 3, 2, 12) := rfl
def W_R_has (F : Int32 → Int32 → M Int32) : CSem := fun _ args k => match args with
  | [(t0, .ref a0), (_, .int a1), (_, .int a2)] => mB (Nat.beq t0 112) <| bn (F a1 a2) fun v => k (some (0, .int v))
  | _ => fl
def cs_R_has : List (Nat × Nat × CSem) := []
def F_R_has (x1 : Int32) (x2 : Int32) : M (Int32) :=
  (if ((x1 >>> (x2 &&& 31)) &&& (1 : Int32)) = (1 : Int32) then
    bn (gdZ (1 : Int32)) fun _ => rt (1 : Int32)
  else
    bn (gdZ (0 : Int32)) fun _ => rt (0 : Int32))
set_option maxRecDepth 4000 in
theorem e_s_R_has_0 (x1 : Int32) (x2 : Int32) : wf (β := Int32) L X q_R_has 2 cs_R_has [] [] (fun _ _ _ => fl) (fun v => match v with | some (_, .int x) => rt x | _ => fl) 16 0 [(112, .ref 207), (0, .int x1), (0, .int x2)] [] = ((if ((x1 >>> (x2 &&& 31)) &&& (1 : Int32)) = (1 : Int32) then
    bn (gdZ (1 : Int32)) fun _ => rt (1 : Int32)
  else
    bn (gdZ (0 : Int32)) fun _ => rt (0 : Int32))) := rfl
theorem s_R_has_0 {d : Nat} (hcs : AllS L X d cs_R_has) (x1 : Int32) (x2 : Int32) {o : Option Value × PH} {Q : (Int32) → MI → Prop} (q0 : ∀ v I, Q v I → o = (some (.int v), HH I)) (I : MI) (r : Int32) (I1 : MI) (h : F_R_has x1 x2 I = some (r, I1)) (hq : Q r I1) : At L X (d + 1) 286 0 [(112, .ref 207), (0, .int x1), (0, .int x2)] [] I o := by
  refine wf_ok z_R_has hcs ?_ ?_ _ _ _ _ _ ⟨rfl, trivial, trivial, trivial⟩ trivial (unm_refl _ _) ((congrFun (e_s_R_has_0 (L := L) (X := X) x1 x2) I).trans h)
  · intro pc ls st I2 h1 h2 h3 h
    cases h
  · intro v I2 _ h
    split at h
    · cases h; exact q0 _ _ hq
    · cases h
theorem w_R_has {d : Nat} (hcs : AllS L X d cs_R_has) : Snd L X (d + 1) 286 3 (W_R_has F_R_has) := by
  refine ⟨_, z_R_has, rfl, fun β args k I r hty hlen h => ?_⟩
  unfold W_R_has at h
  split at h
  · rename_i t0 a0 u1 a1 u2 a2
    obtain ⟨hb0, h⟩ := mB_ok h
    have e0 := Nat.eq_of_beq_eq_true hb0
    have g0 : okB 112 a0 = true := e0 ▸ hty.1
    have e20 := one_112 g0
    subst e20
    obtain ⟨v, I1, h1, h2⟩ := bn_some h
    refine ⟨gf_obj (c := 12) (by decide) g0, rfl, some (0, .int v), I1, trivial, ?_, h2⟩
    exact s_R_has_0 hcs a1 a2  (Q := fun w I => w = v ∧ I = I1) (fun w I q => by obtain ⟨rfl, rfl⟩ := q; rfl) I v I1 h1 ⟨rfl, rfl⟩
  · cases h
theorem S_R_has {d : Nat} (hd : 1 ≤ d) : Snd L X d 286 3 (W_R_has F_R_has) := by
  obtain ⟨e, rfl⟩ : ∃ e, d = e + 1 := ⟨d - 1, by omega⟩
  exact w_R_has trivial
set_option maxRecDepth 100000 in
theorem z_R_bedOf : pT[312]? = some (q_R_bedOf, 2, 6, 1, 12) := rfl
def W_R_bedOf (F : Int32 → M Int32) : CSem := fun _ args k => match args with
  | [(t0, .ref a0), (_, .int a1)] => mB (Nat.beq t0 112) <| bn (F a1) fun v => k (some (0, .int v))
  | _ => fl
def cs_R_bedOf (f_R_doesLie : Int32 → Int32 → M Int32) (f_R_has : Int32 → Int32 → M Int32) : List (Nat × Nat × CSem) := [(311, 3, W_R_doesLie f_R_doesLie), (286, 3, W_R_has f_R_has)]
def B_R_bedOf_20 (x1 : Int32) (x2 : Int32) (x3 : Int32) (y : Int32 × Int32) : M ((Int32 × Int32) ⊕ ((Int32))) :=
  (if y.2 < 0 then
    rt (.inr y.1)
  else
    bn (F_R_has x2 y.2) fun v1 =>
    (if v1 = 0 then
      bn (F_R_doesLie x3 y.2) fun v2 =>
      (if v2 = 0 then
        rt (.inl (y.1, (y.2 + (-1 : Int32))))
      else
        bn (ld 2304 247 (((256 : Int32) * (x3 + (1 : Int32))) + (x2 ||| ((1 : Int32) <<< (y.2 &&& 31))))) fun v3 =>
        bn (ld 2304 247 (((256 : Int32) * x3) + x2)) fun v4 =>
        (if ((1 : Int32) + v3) = v4 then
          rt (.inl (y.2, (y.2 + (-1 : Int32))))
        else
          rt (.inl (y.1, (y.2 + (-1 : Int32))))))
    else
      rt (.inl (y.1, (y.2 + (-1 : Int32))))))
set_option maxRecDepth 4000 in
theorem e_b_R_bedOf_20 (f_R_doesLie : Int32 → Int32 → M Int32) (f_R_has : Int32 → Int32 → M Int32) (x1 : Int32) (x2 : Int32) (x3 : Int32) (y : Int32 × Int32) : wf (β := (Int32 × Int32) ⊕ ((Int32))) L X q_R_bedOf 1 (cs_R_bedOf f_R_doesLie f_R_has) [4, 5] [4, 20, 91] (fun pc ls st => mC (Nat.beq pc 20) (mN st <| gI ls 4 fun a4 => gI ls 5 fun a5 => rt (.inl (a4, a5))) (mC (Nat.beq pc 91) (mN st <| gI ls 4 fun a4 => gD ls 5 <| rt (.inr a4)) (fl))) (fun _ => fl) 78 20 [(112, .ref 207), (0, .int x1), (0, .int x2), (0, .int x3), (0, .int y.1), (0, .int y.2)] [] = ((if y.2 < 0 then
    rt (.inr y.1)
  else
    bn (f_R_has x2 y.2) fun v1 =>
    (if v1 = 0 then
      bn (f_R_doesLie x3 y.2) fun v2 =>
      (if v2 = 0 then
        rt (.inl (y.1, (y.2 + (-1 : Int32))))
      else
        bn (ld 2304 247 (((256 : Int32) * (x3 + (1 : Int32))) + (x2 ||| ((1 : Int32) <<< (y.2 &&& 31))))) fun v3 =>
        bn (ld 2304 247 (((256 : Int32) * x3) + x2)) fun v4 =>
        (if ((1 : Int32) + v3) = v4 then
          rt (.inl (y.2, (y.2 + (-1 : Int32))))
        else
          rt (.inl (y.1, (y.2 + (-1 : Int32))))))
    else
      rt (.inl (y.1, (y.2 + (-1 : Int32))))))) := rfl
theorem b_R_bedOf_20 {d : Nat} (hcs : AllS L X d (cs_R_bedOf F_R_doesLie F_R_has)) (x1 : Int32) (x2 : Int32) (x3 : Int32) {o : Option Value × PH} {Q : ((Int32 × Int32) ⊕ ((Int32))) → MI → Prop} (qb : ∀ y I, Q (.inl y) I → At L X (d + 1) 312 20 [(112, .ref 207), (0, .int x1), (0, .int x2), (0, .int x3), (0, .int y.1), (0, .int y.2)] [] I o) (qe91 : ∀ y I, Q (.inr y) I → At L X (d + 1) 312 91 [(112, .ref 207), (0, .int x1), (0, .int x2), (0, .int x3), (0, .int y), (0, dV)] [] I o) (y : Int32 × Int32) (I : MI) (r : (Int32 × Int32) ⊕ ((Int32))) (I1 : MI) (h : B_R_bedOf_20 x1 x2 x3 y I = some (r, I1)) (hq : Q r I1) : At L X (d + 1) 312 20 [(112, .ref 207), (0, .int x1), (0, .int x2), (0, .int x3), (0, .int y.1), (0, .int y.2)] [] I o := by
  refine wf_ok z_R_bedOf hcs ?_ ?_ _ _ _ _ _ ⟨rfl, trivial, trivial, trivial, trivial, trivial, trivial⟩ trivial (unm_refl _ _) ((congrFun (e_b_R_bedOf_20 (L := L) (X := X) F_R_doesLie F_R_has x1 x2 x3 y) I).trans h)
  · intro pc ls st I2 h1 h2 h3 h
    rcases mC_ok h with ⟨hb, h⟩ | ⟨_, h⟩
    · have e := Nat.eq_of_beq_eq_true hb
      subst e
      obtain ⟨hst, h⟩ := mN_ok h
      subst hst
      obtain ⟨a4, n4, h⟩ := gI_ok h
      obtain ⟨a5, n5, h⟩ := gI_ok h
      refine at_leaf (ls2 := [(112, .ref 207), (0, .int x1), (0, .int x2), (0, .int x3), (0, .int a4), (0, .int a5)]) h3.1 ⟨Or.inr ⟨_, (h3.2 0 rfl).trans rfl⟩, Or.inr ⟨_, (h3.2 1 rfl).trans rfl⟩, Or.inr ⟨_, (h3.2 2 rfl).trans rfl⟩, Or.inr ⟨_, (h3.2 3 rfl).trans rfl⟩, Or.inr n4, Or.inr n5, trivial⟩ ?_
      cases h; exact qb _ _ hq
    rcases mC_ok h with ⟨hb, h⟩ | ⟨_, h⟩
    · have e := Nat.eq_of_beq_eq_true hb
      subst e
      obtain ⟨hst, h⟩ := mN_ok h
      subst hst
      obtain ⟨a4, n4, h⟩ := gI_ok h
      obtain ⟨n5, h⟩ := gD_ok h
      refine at_leaf (ls2 := [(112, .ref 207), (0, .int x1), (0, .int x2), (0, .int x3), (0, .int a4), (0, dV)]) h3.1 ⟨Or.inr ⟨_, (h3.2 0 rfl).trans rfl⟩, Or.inr ⟨_, (h3.2 1 rfl).trans rfl⟩, Or.inr ⟨_, (h3.2 2 rfl).trans rfl⟩, Or.inr ⟨_, (h3.2 3 rfl).trans rfl⟩, Or.inr n4, Or.inl ⟨rfl, n5⟩, trivial⟩ ?_
      cases h; exact qe91 _ _ hq
    cases h
  · intro v I2 _ h
    cases h
def K_R_bedOf_91 (x1 : Int32) (x2 : Int32) (x3 : Int32) (x4 : Int32) : M ((Int32 × Int32) ⊕ (Int32)) :=
  (if x3 = x1 then
    rt (.inr x4)
  else
    (if x4 = (-1 : Int32) then
      rt (.inl (x2, (x3 + (1 : Int32))))
    else
      rt (.inl ((x2 ||| ((1 : Int32) <<< (x4 &&& 31))), (x3 + (1 : Int32))))))
set_option maxRecDepth 4000 in
theorem e_s_R_bedOf_91 (f_R_doesLie : Int32 → Int32 → M Int32) (f_R_has : Int32 → Int32 → M Int32) (x1 : Int32) (x2 : Int32) (x3 : Int32) (x4 : Int32) : wf (β := (Int32 × Int32) ⊕ (Int32)) L X q_R_bedOf 1 (cs_R_bedOf f_R_doesLie f_R_has) [2, 3] [4, 20, 91] (fun pc ls st => mC (Nat.beq pc 4) (mN st <| gI ls 2 fun a2 => gI ls 3 fun a3 => gD ls 4 <| gD ls 5 <| rt (.inl (a2, a3))) (fl)) (fun v => match v with | some (_, .int x) => rt (.inr x) | _ => fl) 78 91 [(112, .ref 207), (0, .int x1), (0, .int x2), (0, .int x3), (0, .int x4), (0, dV)] [] = ((if x3 = x1 then
    rt (.inr x4)
  else
    (if x4 = (-1 : Int32) then
      rt (.inl (x2, (x3 + (1 : Int32))))
    else
      rt (.inl ((x2 ||| ((1 : Int32) <<< (x4 &&& 31))), (x3 + (1 : Int32))))))) := rfl
theorem s_R_bedOf_91 {d : Nat} (hcs : AllS L X d (cs_R_bedOf F_R_doesLie F_R_has)) (x1 : Int32) (x2 : Int32) (x3 : Int32) (x4 : Int32) {o : Option Value × PH} {Q : ((Int32 × Int32) ⊕ (Int32)) → MI → Prop} (qb : ∀ y I, Q (.inl y) I → At L X (d + 1) 312 4 [(112, .ref 207), (0, .int x1), (0, .int y.1), (0, .int y.2), (0, dV), (0, dV)] [] I o) (qr : ∀ v I, Q (.inr v) I → o = (some (.int v), HH I)) (I : MI) (r : (Int32 × Int32) ⊕ (Int32)) (I1 : MI) (h : K_R_bedOf_91 x1 x2 x3 x4 I = some (r, I1)) (hq : Q r I1) : At L X (d + 1) 312 91 [(112, .ref 207), (0, .int x1), (0, .int x2), (0, .int x3), (0, .int x4), (0, dV)] [] I o := by
  refine wf_ok z_R_bedOf hcs ?_ ?_ _ _ _ _ _ ⟨rfl, trivial, trivial, trivial, trivial, trivial, trivial⟩ trivial (unm_refl _ _) ((congrFun (e_s_R_bedOf_91 (L := L) (X := X) F_R_doesLie F_R_has x1 x2 x3 x4) I).trans h)
  · intro pc ls st I2 h1 h2 h3 h
    rcases mC_ok h with ⟨hb, h⟩ | ⟨_, h⟩
    · have e := Nat.eq_of_beq_eq_true hb
      subst e
      obtain ⟨hst, h⟩ := mN_ok h
      subst hst
      obtain ⟨a2, n2, h⟩ := gI_ok h
      obtain ⟨a3, n3, h⟩ := gI_ok h
      obtain ⟨n4, h⟩ := gD_ok h
      obtain ⟨n5, h⟩ := gD_ok h
      refine at_leaf (ls2 := [(112, .ref 207), (0, .int x1), (0, .int a2), (0, .int a3), (0, dV), (0, dV)]) h3.1 ⟨Or.inr ⟨_, (h3.2 0 rfl).trans rfl⟩, Or.inr ⟨_, (h3.2 1 rfl).trans rfl⟩, Or.inr n2, Or.inr n3, Or.inl ⟨rfl, n4⟩, Or.inl ⟨rfl, n5⟩, trivial⟩ ?_
      cases h; exact qb _ _ hq
    cases h
  · intro v I2 _ h
    split at h
    · cases h; exact qr _ _ hq
    · cases h
def K_R_bedOf_20 (x1 : Int32) (x2 : Int32) (x3 : Int32) (x4 : Int32) (x5 : Int32) : M ((Int32 × Int32) ⊕ (Int32)) :=
  bn (lp (B_R_bedOf_20 x1 x2 x3) FU (x4, x5)) fun e => K_R_bedOf_91 x1 x2 x3 e
theorem s_R_bedOf_20 {d : Nat} (hcs : AllS L X d (cs_R_bedOf F_R_doesLie F_R_has)) (x1 : Int32) (x2 : Int32) (x3 : Int32) (x4 : Int32) (x5 : Int32) {o : Option Value × PH} {Q : ((Int32 × Int32) ⊕ (Int32)) → MI → Prop} (qb : ∀ y I, Q (.inl y) I → At L X (d + 1) 312 4 [(112, .ref 207), (0, .int x1), (0, .int y.1), (0, .int y.2), (0, dV), (0, dV)] [] I o) (qr : ∀ v I, Q (.inr v) I → o = (some (.int v), HH I)) (I : MI) (r : (Int32 × Int32) ⊕ (Int32)) (I1 : MI) (h : K_R_bedOf_20 x1 x2 x3 x4 x5 I = some (r, I1)) (hq : Q r I1) : At L X (d + 1) 312 20 [(112, .ref 207), (0, .int x1), (0, .int x2), (0, .int x3), (0, .int x4), (0, .int x5)] [] I o := by
  unfold K_R_bedOf_20 at h
  obtain ⟨e, I2, h1, h2⟩ := bn_some h
  have w0 := fun w => at_lp (body := B_R_bedOf_20 x1 x2 x3) (P := (fun (y : Int32 × Int32) I => At L X (d + 1) 312 20 [(112, .ref 207), (0, .int x1), (0, .int x2), (0, .int x3), (0, .int y.1), (0, .int y.2)] [] I o)) (Q := (fun (e : (Int32)) I => (K_R_bedOf_91 x1 x2 x3 e) I = some (r, I1))) w FU (x4, x5) I e I2 h1 h2
  refine w0 ?_
  intro y I r2 I3 h hq2
  exact b_R_bedOf_20 hcs x1 x2 x3 (Q := SQ (fun (y : Int32 × Int32) I => At L X (d + 1) 312 20 [(112, .ref 207), (0, .int x1), (0, .int x2), (0, .int x3), (0, .int y.1), (0, .int y.2)] [] I o) (fun (e : (Int32)) I => (K_R_bedOf_91 x1 x2 x3 e) I = some (r, I1))) (fun _ _ w => w) (fun y I w => s_R_bedOf_91 hcs x1 x2 x3 y qb qr _ _ _ w hq) y I r2 I3 h hq2
def B_R_bedOf_4 (x1 : Int32) (y : Int32 × Int32) : M ((Int32 × Int32) ⊕ (Int32)) :=
  (if x1 < y.2 then
    rt (.inr (-1 : Int32))
  else
    bn (rd 207 63) fun v1 =>
    K_R_bedOf_20 x1 y.1 y.2 (-1 : Int32) (v1 - (1 : Int32)))
set_option maxRecDepth 4000 in
theorem e_b_R_bedOf_4 (f_R_doesLie : Int32 → Int32 → M Int32) (f_R_has : Int32 → Int32 → M Int32) (k_20 : Int32 → Int32 → Int32 → Int32 → Int32 → M ((Int32 × Int32) ⊕ (Int32))) (x1 : Int32) (y : Int32 × Int32) : wf (β := (Int32 × Int32) ⊕ (Int32)) L X q_R_bedOf 1 (cs_R_bedOf f_R_doesLie f_R_has) [4, 5] [4, 20, 91] (fun pc ls st => mC (Nat.beq pc 20) (mN st <| gI ls 4 fun a4 => gI ls 5 fun a5 => k_20 x1 y.1 y.2 a4 a5) (fl)) (fun v => match v with | some (_, .int x) => rt (.inr x) | _ => fl) 78 4 [(112, .ref 207), (0, .int x1), (0, .int y.1), (0, .int y.2), (0, dV), (0, dV)] [] = ((if x1 < y.2 then
    rt (.inr (-1 : Int32))
  else
    bn (rd 207 63) fun v1 =>
    k_20 x1 y.1 y.2 (-1 : Int32) (v1 - (1 : Int32)))) := rfl
theorem b_R_bedOf_4 {d : Nat} (hcs : AllS L X d (cs_R_bedOf F_R_doesLie F_R_has)) (x1 : Int32) {o : Option Value × PH} {Q : ((Int32 × Int32) ⊕ (Int32)) → MI → Prop} (qb : ∀ y I, Q (.inl y) I → At L X (d + 1) 312 4 [(112, .ref 207), (0, .int x1), (0, .int y.1), (0, .int y.2), (0, dV), (0, dV)] [] I o) (qr : ∀ v I, Q (.inr v) I → o = (some (.int v), HH I)) (y : Int32 × Int32) (I : MI) (r : (Int32 × Int32) ⊕ (Int32)) (I1 : MI) (h : B_R_bedOf_4 x1 y I = some (r, I1)) (hq : Q r I1) : At L X (d + 1) 312 4 [(112, .ref 207), (0, .int x1), (0, .int y.1), (0, .int y.2), (0, dV), (0, dV)] [] I o := by
  refine wf_ok z_R_bedOf hcs ?_ ?_ _ _ _ _ _ ⟨rfl, trivial, trivial, trivial, trivial, trivial, trivial⟩ trivial (unm_refl _ _) ((congrFun (e_b_R_bedOf_4 (L := L) (X := X) F_R_doesLie F_R_has K_R_bedOf_20 x1 y) I).trans h)
  · intro pc ls st I2 h1 h2 h3 h
    rcases mC_ok h with ⟨hb, h⟩ | ⟨_, h⟩
    · have e := Nat.eq_of_beq_eq_true hb
      subst e
      obtain ⟨hst, h⟩ := mN_ok h
      subst hst
      obtain ⟨a4, n4, h⟩ := gI_ok h
      obtain ⟨a5, n5, h⟩ := gI_ok h
      refine at_leaf (ls2 := [(112, .ref 207), (0, .int x1), (0, .int y.1), (0, .int y.2), (0, .int a4), (0, .int a5)]) h3.1 ⟨Or.inr ⟨_, (h3.2 0 rfl).trans rfl⟩, Or.inr ⟨_, (h3.2 1 rfl).trans rfl⟩, Or.inr ⟨_, (h3.2 2 rfl).trans rfl⟩, Or.inr ⟨_, (h3.2 3 rfl).trans rfl⟩, Or.inr n4, Or.inr n5, trivial⟩ ?_
      exact s_R_bedOf_20 hcs x1 y.1 y.2 a4 a5 qb qr _ _ _ h hq
    cases h
  · intro v I2 _ h
    split at h
    · cases h; exact qr _ _ hq
    · cases h
def K_R_bedOf_4 (x1 : Int32) (x2 : Int32) (x3 : Int32) : M (Int32) :=
  lp (B_R_bedOf_4 x1) FU (x2, x3)
theorem s_R_bedOf_4 {d : Nat} (hcs : AllS L X d (cs_R_bedOf F_R_doesLie F_R_has)) (x1 : Int32) (x2 : Int32) (x3 : Int32) {o : Option Value × PH} {Q : (Int32) → MI → Prop} (q0 : ∀ v I, Q v I → o = (some (.int v), HH I)) (I : MI) (r : Int32) (I1 : MI) (h : K_R_bedOf_4 x1 x2 x3 I = some (r, I1)) (hq : Q r I1) : At L X (d + 1) 312 4 [(112, .ref 207), (0, .int x1), (0, .int x2), (0, .int x3), (0, dV), (0, dV)] [] I o := by
  unfold K_R_bedOf_4 at h
  have w0 := fun w => at_lp (body := B_R_bedOf_4 x1) (P := (fun (y : Int32 × Int32) I => At L X (d + 1) 312 4 [(112, .ref 207), (0, .int x1), (0, .int y.1), (0, .int y.2), (0, dV), (0, dV)] [] I o)) (Q := (fun (e : Int32) I => Q e I)) w FU (x2, x3) I r I1 h hq
  refine w0 ?_
  intro y I r I1 h hq
  exact b_R_bedOf_4 hcs x1 (Q := SQ (fun (y : Int32 × Int32) I => At L X (d + 1) 312 4 [(112, .ref 207), (0, .int x1), (0, .int y.1), (0, .int y.2), (0, dV), (0, dV)] [] I o) (fun (e : Int32) I => Q e I)) (fun _ _ w => w) q0 y I r I1 h hq
def F_R_bedOf (x1 : Int32) : M (Int32) :=
  K_R_bedOf_4 x1 (0 : Int32) (0 : Int32)
set_option maxRecDepth 4000 in
theorem e_s_R_bedOf_0 (f_R_doesLie : Int32 → Int32 → M Int32) (f_R_has : Int32 → Int32 → M Int32) (k_4 : Int32 → Int32 → Int32 → M (Int32)) (x1 : Int32) : wf (β := Int32) L X q_R_bedOf 1 (cs_R_bedOf f_R_doesLie f_R_has) [2, 3] [4, 20, 91] (fun pc ls st => mC (Nat.beq pc 4) (mN st <| gI ls 2 fun a2 => gI ls 3 fun a3 => gD ls 4 <| gD ls 5 <| k_4 x1 a2 a3) (fl)) (fun v => match v with | some (_, .int x) => rt x | _ => fl) 78 0 [(112, .ref 207), (0, .int x1), (0, dV), (0, dV), (0, dV), (0, dV)] [] = (k_4 x1 (0 : Int32) (0 : Int32)) := rfl
theorem s_R_bedOf_0 {d : Nat} (hcs : AllS L X d (cs_R_bedOf F_R_doesLie F_R_has)) (x1 : Int32) {o : Option Value × PH} {Q : (Int32) → MI → Prop} (q0 : ∀ v I, Q v I → o = (some (.int v), HH I)) (I : MI) (r : Int32) (I1 : MI) (h : F_R_bedOf x1 I = some (r, I1)) (hq : Q r I1) : At L X (d + 1) 312 0 [(112, .ref 207), (0, .int x1), (0, dV), (0, dV), (0, dV), (0, dV)] [] I o := by
  refine wf_ok z_R_bedOf hcs ?_ ?_ _ _ _ _ _ ⟨rfl, trivial, trivial, trivial, trivial, trivial, trivial⟩ trivial (unm_refl _ _) ((congrFun (e_s_R_bedOf_0 (L := L) (X := X) F_R_doesLie F_R_has K_R_bedOf_4 x1) I).trans h)
  · intro pc ls st I2 h1 h2 h3 h
    rcases mC_ok h with ⟨hb, h⟩ | ⟨_, h⟩
    · have e := Nat.eq_of_beq_eq_true hb
      subst e
      obtain ⟨hst, h⟩ := mN_ok h
      subst hst
      obtain ⟨a2, n2, h⟩ := gI_ok h
      obtain ⟨a3, n3, h⟩ := gI_ok h
      obtain ⟨n4, h⟩ := gD_ok h
      obtain ⟨n5, h⟩ := gD_ok h
      refine at_leaf (ls2 := [(112, .ref 207), (0, .int x1), (0, .int a2), (0, .int a3), (0, dV), (0, dV)]) h3.1 ⟨Or.inr ⟨_, (h3.2 0 rfl).trans rfl⟩, Or.inr ⟨_, (h3.2 1 rfl).trans rfl⟩, Or.inr n2, Or.inr n3, Or.inl ⟨rfl, n4⟩, Or.inl ⟨rfl, n5⟩, trivial⟩ ?_
      exact s_R_bedOf_4 hcs x1 a2 a3 q0 _ _ _ h hq
    cases h
  · intro v I2 _ h
    split at h
    · cases h; exact q0 _ _ hq
    · cases h
theorem w_R_bedOf {d : Nat} (hcs : AllS L X d (cs_R_bedOf F_R_doesLie F_R_has)) : Snd L X (d + 1) 312 2 (W_R_bedOf F_R_bedOf) := by
  refine ⟨_, z_R_bedOf, rfl, fun β args k I r hty hlen h => ?_⟩
  unfold W_R_bedOf at h
  split at h
  · rename_i t0 a0 u1 a1
    obtain ⟨hb0, h⟩ := mB_ok h
    have e0 := Nat.eq_of_beq_eq_true hb0
    have g0 : okB 112 a0 = true := e0 ▸ hty.1
    have e20 := one_112 g0
    subst e20
    obtain ⟨v, I1, h1, h2⟩ := bn_some h
    refine ⟨gf_obj (c := 12) (by decide) g0, rfl, some (0, .int v), I1, trivial, ?_, h2⟩
    exact s_R_bedOf_0 hcs a1  (Q := fun w I => w = v ∧ I = I1) (fun w I q => by obtain ⟨rfl, rfl⟩ := q; rfl) I v I1 h1 ⟨rfl, rfl⟩
  · cases h
theorem S_R_bedOf {d : Nat} (hd : 3 ≤ d) : Snd L X d 312 2 (W_R_bedOf F_R_bedOf) := by
  obtain ⟨e, rfl⟩ : ∃ e, d = e + 1 := ⟨d - 1, by omega⟩
  exact w_R_bedOf ⟨S_R_doesLie (by omega), S_R_has (by omega), trivial⟩
set_option maxRecDepth 100000 in
theorem z_R_greater : pT[269]? = some (q_R_greater, 3, 3, 1, 12) := rfl
def W_R_greater (F : Int32 → Int32 → M Int32) : CSem := fun _ args k => match args with
  | [(t0, .ref a0), (_, .int a1), (_, .int a2)] => mB (Nat.beq t0 112) <| bn (F a1 a2) fun v => k (some (0, .int v))
  | _ => fl
def cs_R_greater : List (Nat × Nat × CSem) := []
def F_R_greater (x1 : Int32) (x2 : Int32) : M (Int32) :=
  (if x2 < x1 then
    rt x1
  else
    rt x2)
set_option maxRecDepth 4000 in
theorem e_s_R_greater_0 (x1 : Int32) (x2 : Int32) : wf (β := Int32) L X q_R_greater 1 cs_R_greater [] [] (fun _ _ _ => fl) (fun v => match v with | some (_, .int x) => rt x | _ => fl) 12 0 [(112, .ref 207), (0, .int x1), (0, .int x2)] [] = ((if x2 < x1 then
    rt x1
  else
    rt x2)) := rfl
theorem s_R_greater_0 {d : Nat} (hcs : AllS L X d cs_R_greater) (x1 : Int32) (x2 : Int32) {o : Option Value × PH} {Q : (Int32) → MI → Prop} (q0 : ∀ v I, Q v I → o = (some (.int v), HH I)) (I : MI) (r : Int32) (I1 : MI) (h : F_R_greater x1 x2 I = some (r, I1)) (hq : Q r I1) : At L X (d + 1) 269 0 [(112, .ref 207), (0, .int x1), (0, .int x2)] [] I o := by
  refine wf_ok z_R_greater hcs ?_ ?_ _ _ _ _ _ ⟨rfl, trivial, trivial, trivial⟩ trivial (unm_refl _ _) ((congrFun (e_s_R_greater_0 (L := L) (X := X) x1 x2) I).trans h)
  · intro pc ls st I2 h1 h2 h3 h
    cases h
  · intro v I2 _ h
    split at h
    · cases h; exact q0 _ _ hq
    · cases h
theorem w_R_greater {d : Nat} (hcs : AllS L X d cs_R_greater) : Snd L X (d + 1) 269 3 (W_R_greater F_R_greater) := by
  refine ⟨_, z_R_greater, rfl, fun β args k I r hty hlen h => ?_⟩
  unfold W_R_greater at h
  split at h
  · rename_i t0 a0 u1 a1 u2 a2
    obtain ⟨hb0, h⟩ := mB_ok h
    have e0 := Nat.eq_of_beq_eq_true hb0
    have g0 : okB 112 a0 = true := e0 ▸ hty.1
    have e20 := one_112 g0
    subst e20
    obtain ⟨v, I1, h1, h2⟩ := bn_some h
    refine ⟨gf_obj (c := 12) (by decide) g0, rfl, some (0, .int v), I1, trivial, ?_, h2⟩
    exact s_R_greater_0 hcs a1 a2  (Q := fun w I => w = v ∧ I = I1) (fun w I q => by obtain ⟨rfl, rfl⟩ := q; rfl) I v I1 h1 ⟨rfl, rfl⟩
  · cases h
theorem S_R_greater {d : Nat} (hd : 1 ≤ d) : Snd L X d 269 3 (W_R_greater F_R_greater) := by
  obtain ⟨e, rfl⟩ : ∃ e, d = e + 1 := ⟨d - 1, by omega⟩
  exact w_R_greater trivial
set_option maxRecDepth 100000 in
theorem z_R_findsBedded : pT[310]? = some (q_R_findsBedded, 1, 5, 0, 12) := rfl
def W_R_findsBedded (F : M Unit) : CSem := fun _ args k => match args with
  | [(t0, .ref a0)] => mB (Nat.beq t0 112) <| bn (F) fun _ => k none
  | _ => fl
def cs_R_findsBedded (f_R_doesLie : Int32 → Int32 → M Int32) (f_R_greater : Int32 → Int32 → M Int32) (f_R_has : Int32 → Int32 → M Int32) : List (Nat × Nat × CSem) := [(311, 3, W_R_doesLie f_R_doesLie), (269, 3, W_R_greater f_R_greater), (286, 3, W_R_has f_R_has)]
def B_R_findsBedded_2 (y : Int32) : M ((Int32) ⊕ ((Unit))) :=
  (if y < (256 : Int32) then
    bn (rd 207 61) fun v1 =>
    bn (sr 2304 247 (((256 : Int32) * v1) + y) (0 : Int32)) fun _ =>
    rt (.inl (y + (1 : Int32)))
  else
    rt (.inr ()))
set_option maxRecDepth 4000 in
theorem e_b_R_findsBedded_2 (f_R_doesLie : Int32 → Int32 → M Int32) (f_R_greater : Int32 → Int32 → M Int32) (f_R_has : Int32 → Int32 → M Int32) (y : Int32) : wf (β := (Int32) ⊕ ((Unit))) L X q_R_findsBedded 0 (cs_R_findsBedded f_R_doesLie f_R_greater f_R_has) [1] [2, 31, 38, 44, 72, 134, 153] (fun pc ls st => mC (Nat.beq pc 2) (mN st <| gI ls 1 fun a1 => gD ls 2 <| gD ls 3 <| gD ls 4 <| rt (.inl a1)) (mC (Nat.beq pc 31) (mN st <| gD ls 1 <| gD ls 2 <| gD ls 3 <| gD ls 4 <| rt (.inr ())) (fl))) (fun _ => fl) 100 2 [(112, .ref 207), (0, .int y), (0, dV), (0, dV), (0, dV)] [] = ((if y < (256 : Int32) then
    bn (rd 207 61) fun v1 =>
    bn (sr 2304 247 (((256 : Int32) * v1) + y) (0 : Int32)) fun _ =>
    rt (.inl (y + (1 : Int32)))
  else
    rt (.inr ()))) := rfl
theorem b_R_findsBedded_2 {d : Nat} (hcs : AllS L X d (cs_R_findsBedded F_R_doesLie F_R_greater F_R_has)) {o : Option Value × PH} {Q : ((Int32) ⊕ ((Unit))) → MI → Prop} (qb : ∀ y I, Q (.inl y) I → At L X (d + 1) 310 2 [(112, .ref 207), (0, .int y), (0, dV), (0, dV), (0, dV)] [] I o) (qe31 : ∀ y I, Q (.inr y) I → At L X (d + 1) 310 31 [(112, .ref 207), (0, dV), (0, dV), (0, dV), (0, dV)] [] I o) (y : Int32) (I : MI) (r : (Int32) ⊕ ((Unit))) (I1 : MI) (h : B_R_findsBedded_2 y I = some (r, I1)) (hq : Q r I1) : At L X (d + 1) 310 2 [(112, .ref 207), (0, .int y), (0, dV), (0, dV), (0, dV)] [] I o := by
  refine wf_ok z_R_findsBedded hcs ?_ ?_ _ _ _ _ _ ⟨rfl, trivial, trivial, trivial, trivial, trivial⟩ trivial (unm_refl _ _) ((congrFun (e_b_R_findsBedded_2 (L := L) (X := X) F_R_doesLie F_R_greater F_R_has y) I).trans h)
  · intro pc ls st I2 h1 h2 h3 h
    rcases mC_ok h with ⟨hb, h⟩ | ⟨_, h⟩
    · have e := Nat.eq_of_beq_eq_true hb
      subst e
      obtain ⟨hst, h⟩ := mN_ok h
      subst hst
      obtain ⟨a1, n1, h⟩ := gI_ok h
      obtain ⟨n2, h⟩ := gD_ok h
      obtain ⟨n3, h⟩ := gD_ok h
      obtain ⟨n4, h⟩ := gD_ok h
      refine at_leaf (ls2 := [(112, .ref 207), (0, .int a1), (0, dV), (0, dV), (0, dV)]) h3.1 ⟨Or.inr ⟨_, (h3.2 0 rfl).trans rfl⟩, Or.inr n1, Or.inl ⟨rfl, n2⟩, Or.inl ⟨rfl, n3⟩, Or.inl ⟨rfl, n4⟩, trivial⟩ ?_
      cases h; exact qb _ _ hq
    rcases mC_ok h with ⟨hb, h⟩ | ⟨_, h⟩
    · have e := Nat.eq_of_beq_eq_true hb
      subst e
      obtain ⟨hst, h⟩ := mN_ok h
      subst hst
      obtain ⟨n1, h⟩ := gD_ok h
      obtain ⟨n2, h⟩ := gD_ok h
      obtain ⟨n3, h⟩ := gD_ok h
      obtain ⟨n4, h⟩ := gD_ok h
      refine at_leaf (ls2 := [(112, .ref 207), (0, dV), (0, dV), (0, dV), (0, dV)]) h3.1 ⟨Or.inr ⟨_, (h3.2 0 rfl).trans rfl⟩, Or.inl ⟨rfl, n1⟩, Or.inl ⟨rfl, n2⟩, Or.inl ⟨rfl, n3⟩, Or.inl ⟨rfl, n4⟩, trivial⟩ ?_
      cases h; exact qe31 _ _ hq
    cases h
  · intro v I2 _ h
    cases h
def B_R_findsBedded_72 (x1 : Int32) (x2 : Int32) (y : Int32 × Int32) : M ((Int32 × Int32) ⊕ ((Int32))) :=
  bn (rd 207 63) fun v1 =>
  (if y.2 < v1 then
    bn (F_R_has x2 y.2) fun v2 =>
    (if v2 = 0 then
      bn (F_R_doesLie x1 y.2) fun v3 =>
      (if v3 = 0 then
        rt (.inl (y.1, (y.2 + (1 : Int32))))
      else
        bn (ld 2304 247 (((256 : Int32) * (x1 + (1 : Int32))) + (x2 ||| ((1 : Int32) <<< (y.2 &&& 31))))) fun v4 =>
        bn (F_R_greater y.1 ((1 : Int32) + v4)) fun v5 =>
        rt (.inl (v5, (y.2 + (1 : Int32)))))
    else
      rt (.inl (y.1, (y.2 + (1 : Int32)))))
  else
    rt (.inr y.1))
set_option maxRecDepth 4000 in
theorem e_b_R_findsBedded_72 (f_R_doesLie : Int32 → Int32 → M Int32) (f_R_greater : Int32 → Int32 → M Int32) (f_R_has : Int32 → Int32 → M Int32) (x1 : Int32) (x2 : Int32) (y : Int32 × Int32) : wf (β := (Int32 × Int32) ⊕ ((Int32))) L X q_R_findsBedded 0 (cs_R_findsBedded f_R_doesLie f_R_greater f_R_has) [3, 4] [2, 31, 38, 44, 72, 134, 153] (fun pc ls st => mC (Nat.beq pc 72) (mN st <| gI ls 3 fun a3 => gI ls 4 fun a4 => rt (.inl (a3, a4))) (mC (Nat.beq pc 134) (mN st <| gI ls 3 fun a3 => gD ls 4 <| rt (.inr a3)) (fl))) (fun _ => fl) 100 72 [(112, .ref 207), (0, .int x1), (0, .int x2), (0, .int y.1), (0, .int y.2)] [] = (bn (rd 207 63) fun v1 =>
  (if y.2 < v1 then
    bn (f_R_has x2 y.2) fun v2 =>
    (if v2 = 0 then
      bn (f_R_doesLie x1 y.2) fun v3 =>
      (if v3 = 0 then
        rt (.inl (y.1, (y.2 + (1 : Int32))))
      else
        bn (ld 2304 247 (((256 : Int32) * (x1 + (1 : Int32))) + (x2 ||| ((1 : Int32) <<< (y.2 &&& 31))))) fun v4 =>
        bn (f_R_greater y.1 ((1 : Int32) + v4)) fun v5 =>
        rt (.inl (v5, (y.2 + (1 : Int32)))))
    else
      rt (.inl (y.1, (y.2 + (1 : Int32)))))
  else
    rt (.inr y.1))) := rfl
theorem b_R_findsBedded_72 {d : Nat} (hcs : AllS L X d (cs_R_findsBedded F_R_doesLie F_R_greater F_R_has)) (x1 : Int32) (x2 : Int32) {o : Option Value × PH} {Q : ((Int32 × Int32) ⊕ ((Int32))) → MI → Prop} (qb : ∀ y I, Q (.inl y) I → At L X (d + 1) 310 72 [(112, .ref 207), (0, .int x1), (0, .int x2), (0, .int y.1), (0, .int y.2)] [] I o) (qe134 : ∀ y I, Q (.inr y) I → At L X (d + 1) 310 134 [(112, .ref 207), (0, .int x1), (0, .int x2), (0, .int y), (0, dV)] [] I o) (y : Int32 × Int32) (I : MI) (r : (Int32 × Int32) ⊕ ((Int32))) (I1 : MI) (h : B_R_findsBedded_72 x1 x2 y I = some (r, I1)) (hq : Q r I1) : At L X (d + 1) 310 72 [(112, .ref 207), (0, .int x1), (0, .int x2), (0, .int y.1), (0, .int y.2)] [] I o := by
  refine wf_ok z_R_findsBedded hcs ?_ ?_ _ _ _ _ _ ⟨rfl, trivial, trivial, trivial, trivial, trivial⟩ trivial (unm_refl _ _) ((congrFun (e_b_R_findsBedded_72 (L := L) (X := X) F_R_doesLie F_R_greater F_R_has x1 x2 y) I).trans h)
  · intro pc ls st I2 h1 h2 h3 h
    rcases mC_ok h with ⟨hb, h⟩ | ⟨_, h⟩
    · have e := Nat.eq_of_beq_eq_true hb
      subst e
      obtain ⟨hst, h⟩ := mN_ok h
      subst hst
      obtain ⟨a3, n3, h⟩ := gI_ok h
      obtain ⟨a4, n4, h⟩ := gI_ok h
      refine at_leaf (ls2 := [(112, .ref 207), (0, .int x1), (0, .int x2), (0, .int a3), (0, .int a4)]) h3.1 ⟨Or.inr ⟨_, (h3.2 0 rfl).trans rfl⟩, Or.inr ⟨_, (h3.2 1 rfl).trans rfl⟩, Or.inr ⟨_, (h3.2 2 rfl).trans rfl⟩, Or.inr n3, Or.inr n4, trivial⟩ ?_
      cases h; exact qb _ _ hq
    rcases mC_ok h with ⟨hb, h⟩ | ⟨_, h⟩
    · have e := Nat.eq_of_beq_eq_true hb
      subst e
      obtain ⟨hst, h⟩ := mN_ok h
      subst hst
      obtain ⟨a3, n3, h⟩ := gI_ok h
      obtain ⟨n4, h⟩ := gD_ok h
      refine at_leaf (ls2 := [(112, .ref 207), (0, .int x1), (0, .int x2), (0, .int a3), (0, dV)]) h3.1 ⟨Or.inr ⟨_, (h3.2 0 rfl).trans rfl⟩, Or.inr ⟨_, (h3.2 1 rfl).trans rfl⟩, Or.inr ⟨_, (h3.2 2 rfl).trans rfl⟩, Or.inr n3, Or.inl ⟨rfl, n4⟩, trivial⟩ ?_
      cases h; exact qe134 _ _ hq
    cases h
  · intro v I2 _ h
    cases h
def K_R_findsBedded_134 (x1 : Int32) (x2 : Int32) (x3 : Int32) : M ((Int32) ⊕ ((Unit))) :=
  bn (sr 2304 247 (((256 : Int32) * x1) + x2) x3) fun _ =>
  rt (.inl (x2 + (1 : Int32)))
set_option maxRecDepth 4000 in
theorem e_s_R_findsBedded_134 (f_R_doesLie : Int32 → Int32 → M Int32) (f_R_greater : Int32 → Int32 → M Int32) (f_R_has : Int32 → Int32 → M Int32) (x1 : Int32) (x2 : Int32) (x3 : Int32) : wf (β := (Int32) ⊕ ((Unit))) L X q_R_findsBedded 0 (cs_R_findsBedded f_R_doesLie f_R_greater f_R_has) [2] [2, 31, 38, 44, 72, 134, 153] (fun pc ls st => mC (Nat.beq pc 44) (mN st <| gI ls 2 fun a2 => gD ls 3 <| gD ls 4 <| rt (.inl a2)) (fl)) (fun _ => fl) 100 134 [(112, .ref 207), (0, .int x1), (0, .int x2), (0, .int x3), (0, dV)] [] = (bn (sr 2304 247 (((256 : Int32) * x1) + x2) x3) fun _ =>
  rt (.inl (x2 + (1 : Int32)))) := rfl
theorem s_R_findsBedded_134 {d : Nat} (hcs : AllS L X d (cs_R_findsBedded F_R_doesLie F_R_greater F_R_has)) (x1 : Int32) (x2 : Int32) (x3 : Int32) {o : Option Value × PH} {Q : ((Int32) ⊕ ((Unit))) → MI → Prop} (qb : ∀ y I, Q (.inl y) I → At L X (d + 1) 310 44 [(112, .ref 207), (0, .int x1), (0, .int y), (0, dV), (0, dV)] [] I o) (qe153 : ∀ y I, Q (.inr y) I → At L X (d + 1) 310 153 [(112, .ref 207), (0, .int x1), (0, dV), (0, dV), (0, dV)] [] I o) (I : MI) (r : (Int32) ⊕ ((Unit))) (I1 : MI) (h : K_R_findsBedded_134 x1 x2 x3 I = some (r, I1)) (hq : Q r I1) : At L X (d + 1) 310 134 [(112, .ref 207), (0, .int x1), (0, .int x2), (0, .int x3), (0, dV)] [] I o := by
  refine wf_ok z_R_findsBedded hcs ?_ ?_ _ _ _ _ _ ⟨rfl, trivial, trivial, trivial, trivial, trivial⟩ trivial (unm_refl _ _) ((congrFun (e_s_R_findsBedded_134 (L := L) (X := X) F_R_doesLie F_R_greater F_R_has x1 x2 x3) I).trans h)
  · intro pc ls st I2 h1 h2 h3 h
    rcases mC_ok h with ⟨hb, h⟩ | ⟨_, h⟩
    · have e := Nat.eq_of_beq_eq_true hb
      subst e
      obtain ⟨hst, h⟩ := mN_ok h
      subst hst
      obtain ⟨a2, n2, h⟩ := gI_ok h
      obtain ⟨n3, h⟩ := gD_ok h
      obtain ⟨n4, h⟩ := gD_ok h
      refine at_leaf (ls2 := [(112, .ref 207), (0, .int x1), (0, .int a2), (0, dV), (0, dV)]) h3.1 ⟨Or.inr ⟨_, (h3.2 0 rfl).trans rfl⟩, Or.inr ⟨_, (h3.2 1 rfl).trans rfl⟩, Or.inr n2, Or.inl ⟨rfl, n3⟩, Or.inl ⟨rfl, n4⟩, trivial⟩ ?_
      cases h; exact qb _ _ hq
    cases h
  · intro v I2 _ h
    cases h
def K_R_findsBedded_72 (x1 : Int32) (x2 : Int32) (x3 : Int32) (x4 : Int32) : M ((Int32) ⊕ ((Unit))) :=
  bn (lp (B_R_findsBedded_72 x1 x2) FU (x3, x4)) fun e => K_R_findsBedded_134 x1 x2 e
theorem s_R_findsBedded_72 {d : Nat} (hcs : AllS L X d (cs_R_findsBedded F_R_doesLie F_R_greater F_R_has)) (x1 : Int32) (x2 : Int32) (x3 : Int32) (x4 : Int32) {o : Option Value × PH} {Q : ((Int32) ⊕ ((Unit))) → MI → Prop} (qb : ∀ y I, Q (.inl y) I → At L X (d + 1) 310 44 [(112, .ref 207), (0, .int x1), (0, .int y), (0, dV), (0, dV)] [] I o) (qe153 : ∀ y I, Q (.inr y) I → At L X (d + 1) 310 153 [(112, .ref 207), (0, .int x1), (0, dV), (0, dV), (0, dV)] [] I o) (I : MI) (r : (Int32) ⊕ ((Unit))) (I1 : MI) (h : K_R_findsBedded_72 x1 x2 x3 x4 I = some (r, I1)) (hq : Q r I1) : At L X (d + 1) 310 72 [(112, .ref 207), (0, .int x1), (0, .int x2), (0, .int x3), (0, .int x4)] [] I o := by
  unfold K_R_findsBedded_72 at h
  obtain ⟨e, I2, h1, h2⟩ := bn_some h
  have w0 := fun w => at_lp (body := B_R_findsBedded_72 x1 x2) (P := (fun (y : Int32 × Int32) I => At L X (d + 1) 310 72 [(112, .ref 207), (0, .int x1), (0, .int x2), (0, .int y.1), (0, .int y.2)] [] I o)) (Q := (fun (e : (Int32)) I => (K_R_findsBedded_134 x1 x2 e) I = some (r, I1))) w FU (x3, x4) I e I2 h1 h2
  refine w0 ?_
  intro y I r2 I3 h hq2
  exact b_R_findsBedded_72 hcs x1 x2 (Q := SQ (fun (y : Int32 × Int32) I => At L X (d + 1) 310 72 [(112, .ref 207), (0, .int x1), (0, .int x2), (0, .int y.1), (0, .int y.2)] [] I o) (fun (e : (Int32)) I => (K_R_findsBedded_134 x1 x2 e) I = some (r, I1))) (fun _ _ w => w) (fun y I w => s_R_findsBedded_134 hcs x1 x2 y qb qe153 _ _ _ w hq) y I r2 I3 h hq2
def B_R_findsBedded_44 (x1 : Int32) (y : Int32) : M ((Int32) ⊕ ((Unit))) :=
  bn (rd 207 63) fun v1 =>
  (if y < ((1 : Int32) <<< (v1 &&& 31)) then
    bn (ld 2304 247 (((256 : Int32) * (x1 + (1 : Int32))) + y)) fun v2 =>
    K_R_findsBedded_72 x1 y v2 (0 : Int32)
  else
    rt (.inr ()))
set_option maxRecDepth 4000 in
theorem e_b_R_findsBedded_44 (f_R_doesLie : Int32 → Int32 → M Int32) (f_R_greater : Int32 → Int32 → M Int32) (f_R_has : Int32 → Int32 → M Int32) (k_72 : Int32 → Int32 → Int32 → Int32 → M ((Int32) ⊕ ((Unit)))) (x1 : Int32) (y : Int32) : wf (β := (Int32) ⊕ ((Unit))) L X q_R_findsBedded 0 (cs_R_findsBedded f_R_doesLie f_R_greater f_R_has) [3, 4] [2, 31, 38, 44, 72, 134, 153] (fun pc ls st => mC (Nat.beq pc 72) (mN st <| gI ls 3 fun a3 => gI ls 4 fun a4 => k_72 x1 y a3 a4) (mC (Nat.beq pc 153) (mN st <| gD ls 2 <| gD ls 3 <| gD ls 4 <| rt (.inr ())) (fl))) (fun _ => fl) 100 44 [(112, .ref 207), (0, .int x1), (0, .int y), (0, dV), (0, dV)] [] = (bn (rd 207 63) fun v1 =>
  (if y < ((1 : Int32) <<< (v1 &&& 31)) then
    bn (ld 2304 247 (((256 : Int32) * (x1 + (1 : Int32))) + y)) fun v2 =>
    k_72 x1 y v2 (0 : Int32)
  else
    rt (.inr ()))) := rfl
theorem b_R_findsBedded_44 {d : Nat} (hcs : AllS L X d (cs_R_findsBedded F_R_doesLie F_R_greater F_R_has)) (x1 : Int32) {o : Option Value × PH} {Q : ((Int32) ⊕ ((Unit))) → MI → Prop} (qb : ∀ y I, Q (.inl y) I → At L X (d + 1) 310 44 [(112, .ref 207), (0, .int x1), (0, .int y), (0, dV), (0, dV)] [] I o) (qe153 : ∀ y I, Q (.inr y) I → At L X (d + 1) 310 153 [(112, .ref 207), (0, .int x1), (0, dV), (0, dV), (0, dV)] [] I o) (y : Int32) (I : MI) (r : (Int32) ⊕ ((Unit))) (I1 : MI) (h : B_R_findsBedded_44 x1 y I = some (r, I1)) (hq : Q r I1) : At L X (d + 1) 310 44 [(112, .ref 207), (0, .int x1), (0, .int y), (0, dV), (0, dV)] [] I o := by
  refine wf_ok z_R_findsBedded hcs ?_ ?_ _ _ _ _ _ ⟨rfl, trivial, trivial, trivial, trivial, trivial⟩ trivial (unm_refl _ _) ((congrFun (e_b_R_findsBedded_44 (L := L) (X := X) F_R_doesLie F_R_greater F_R_has K_R_findsBedded_72 x1 y) I).trans h)
  · intro pc ls st I2 h1 h2 h3 h
    rcases mC_ok h with ⟨hb, h⟩ | ⟨_, h⟩
    · have e := Nat.eq_of_beq_eq_true hb
      subst e
      obtain ⟨hst, h⟩ := mN_ok h
      subst hst
      obtain ⟨a3, n3, h⟩ := gI_ok h
      obtain ⟨a4, n4, h⟩ := gI_ok h
      refine at_leaf (ls2 := [(112, .ref 207), (0, .int x1), (0, .int y), (0, .int a3), (0, .int a4)]) h3.1 ⟨Or.inr ⟨_, (h3.2 0 rfl).trans rfl⟩, Or.inr ⟨_, (h3.2 1 rfl).trans rfl⟩, Or.inr ⟨_, (h3.2 2 rfl).trans rfl⟩, Or.inr n3, Or.inr n4, trivial⟩ ?_
      exact s_R_findsBedded_72 hcs x1 y a3 a4 qb qe153 _ _ _ h hq
    rcases mC_ok h with ⟨hb, h⟩ | ⟨_, h⟩
    · have e := Nat.eq_of_beq_eq_true hb
      subst e
      obtain ⟨hst, h⟩ := mN_ok h
      subst hst
      obtain ⟨n2, h⟩ := gD_ok h
      obtain ⟨n3, h⟩ := gD_ok h
      obtain ⟨n4, h⟩ := gD_ok h
      refine at_leaf (ls2 := [(112, .ref 207), (0, .int x1), (0, dV), (0, dV), (0, dV)]) h3.1 ⟨Or.inr ⟨_, (h3.2 0 rfl).trans rfl⟩, Or.inr ⟨_, (h3.2 1 rfl).trans rfl⟩, Or.inl ⟨rfl, n2⟩, Or.inl ⟨rfl, n3⟩, Or.inl ⟨rfl, n4⟩, trivial⟩ ?_
      cases h; exact qe153 _ _ hq
    cases h
  · intro v I2 _ h
    cases h
def K_R_findsBedded_153 (x1 : Int32) : M ((Int32) ⊕ (Unit)) :=
  rt (.inl (x1 + (-1 : Int32)))
set_option maxRecDepth 4000 in
theorem e_s_R_findsBedded_153 (f_R_doesLie : Int32 → Int32 → M Int32) (f_R_greater : Int32 → Int32 → M Int32) (f_R_has : Int32 → Int32 → M Int32) (x1 : Int32) : wf (β := (Int32) ⊕ (Unit)) L X q_R_findsBedded 0 (cs_R_findsBedded f_R_doesLie f_R_greater f_R_has) [1] [2, 31, 38, 44, 72, 134, 153] (fun pc ls st => mC (Nat.beq pc 38) (mN st <| gI ls 1 fun a1 => gD ls 2 <| gD ls 3 <| gD ls 4 <| rt (.inl a1)) (fl)) (fun v => match v with | none => rt (.inr ()) | _ => fl) 100 153 [(112, .ref 207), (0, .int x1), (0, dV), (0, dV), (0, dV)] [] = (rt (.inl (x1 + (-1 : Int32)))) := rfl
theorem s_R_findsBedded_153 {d : Nat} (hcs : AllS L X d (cs_R_findsBedded F_R_doesLie F_R_greater F_R_has)) (x1 : Int32) {o : Option Value × PH} {Q : ((Int32) ⊕ (Unit)) → MI → Prop} (qb : ∀ y I, Q (.inl y) I → At L X (d + 1) 310 38 [(112, .ref 207), (0, .int y), (0, dV), (0, dV), (0, dV)] [] I o) (qr : ∀ v I, Q (.inr v) I → o = (none, HH I)) (I : MI) (r : (Int32) ⊕ (Unit)) (I1 : MI) (h : K_R_findsBedded_153 x1 I = some (r, I1)) (hq : Q r I1) : At L X (d + 1) 310 153 [(112, .ref 207), (0, .int x1), (0, dV), (0, dV), (0, dV)] [] I o := by
  refine wf_ok z_R_findsBedded hcs ?_ ?_ _ _ _ _ _ ⟨rfl, trivial, trivial, trivial, trivial, trivial⟩ trivial (unm_refl _ _) ((congrFun (e_s_R_findsBedded_153 (L := L) (X := X) F_R_doesLie F_R_greater F_R_has x1) I).trans h)
  · intro pc ls st I2 h1 h2 h3 h
    rcases mC_ok h with ⟨hb, h⟩ | ⟨_, h⟩
    · have e := Nat.eq_of_beq_eq_true hb
      subst e
      obtain ⟨hst, h⟩ := mN_ok h
      subst hst
      obtain ⟨a1, n1, h⟩ := gI_ok h
      obtain ⟨n2, h⟩ := gD_ok h
      obtain ⟨n3, h⟩ := gD_ok h
      obtain ⟨n4, h⟩ := gD_ok h
      refine at_leaf (ls2 := [(112, .ref 207), (0, .int a1), (0, dV), (0, dV), (0, dV)]) h3.1 ⟨Or.inr ⟨_, (h3.2 0 rfl).trans rfl⟩, Or.inr n1, Or.inl ⟨rfl, n2⟩, Or.inl ⟨rfl, n3⟩, Or.inl ⟨rfl, n4⟩, trivial⟩ ?_
      cases h; exact qb _ _ hq
    cases h
  · intro v I2 _ h
    split at h
    · cases h; exact qr _ _ hq
    · cases h
def K_R_findsBedded_44 (x1 : Int32) (x2 : Int32) : M ((Int32) ⊕ (Unit)) :=
  bn (lp (B_R_findsBedded_44 x1) FU x2) fun e => K_R_findsBedded_153 x1
theorem s_R_findsBedded_44 {d : Nat} (hcs : AllS L X d (cs_R_findsBedded F_R_doesLie F_R_greater F_R_has)) (x1 : Int32) (x2 : Int32) {o : Option Value × PH} {Q : ((Int32) ⊕ (Unit)) → MI → Prop} (qb : ∀ y I, Q (.inl y) I → At L X (d + 1) 310 38 [(112, .ref 207), (0, .int y), (0, dV), (0, dV), (0, dV)] [] I o) (qr : ∀ v I, Q (.inr v) I → o = (none, HH I)) (I : MI) (r : (Int32) ⊕ (Unit)) (I1 : MI) (h : K_R_findsBedded_44 x1 x2 I = some (r, I1)) (hq : Q r I1) : At L X (d + 1) 310 44 [(112, .ref 207), (0, .int x1), (0, .int x2), (0, dV), (0, dV)] [] I o := by
  unfold K_R_findsBedded_44 at h
  obtain ⟨e, I2, h1, h2⟩ := bn_some h
  have w0 := fun w => at_lp (body := B_R_findsBedded_44 x1) (P := (fun (y : Int32) I => At L X (d + 1) 310 44 [(112, .ref 207), (0, .int x1), (0, .int y), (0, dV), (0, dV)] [] I o)) (Q := (fun (e : (Unit)) I => (K_R_findsBedded_153 x1) I = some (r, I1))) w FU x2 I e I2 h1 h2
  refine w0 ?_
  intro y I r2 I3 h hq2
  exact b_R_findsBedded_44 hcs x1 (Q := SQ (fun (y : Int32) I => At L X (d + 1) 310 44 [(112, .ref 207), (0, .int x1), (0, .int y), (0, dV), (0, dV)] [] I o) (fun (e : (Unit)) I => (K_R_findsBedded_153 x1) I = some (r, I1))) (fun _ _ w => w) (fun y I w => s_R_findsBedded_153 hcs x1 qb qr _ _ _ w hq) y I r2 I3 h hq2
def B_R_findsBedded_38 (y : Int32) : M ((Int32) ⊕ (Unit)) :=
  (if y < 0 then
    rt (.inr ())
  else
    K_R_findsBedded_44 y (0 : Int32))
set_option maxRecDepth 4000 in
theorem e_b_R_findsBedded_38 (f_R_doesLie : Int32 → Int32 → M Int32) (f_R_greater : Int32 → Int32 → M Int32) (f_R_has : Int32 → Int32 → M Int32) (k_44 : Int32 → Int32 → M ((Int32) ⊕ (Unit))) (y : Int32) : wf (β := (Int32) ⊕ (Unit)) L X q_R_findsBedded 0 (cs_R_findsBedded f_R_doesLie f_R_greater f_R_has) [2] [2, 31, 38, 44, 72, 134, 153] (fun pc ls st => mC (Nat.beq pc 44) (mN st <| gI ls 2 fun a2 => gD ls 3 <| gD ls 4 <| k_44 y a2) (fl)) (fun v => match v with | none => rt (.inr ()) | _ => fl) 100 38 [(112, .ref 207), (0, .int y), (0, dV), (0, dV), (0, dV)] [] = ((if y < 0 then
    rt (.inr ())
  else
    k_44 y (0 : Int32))) := rfl
theorem b_R_findsBedded_38 {d : Nat} (hcs : AllS L X d (cs_R_findsBedded F_R_doesLie F_R_greater F_R_has)) {o : Option Value × PH} {Q : ((Int32) ⊕ (Unit)) → MI → Prop} (qb : ∀ y I, Q (.inl y) I → At L X (d + 1) 310 38 [(112, .ref 207), (0, .int y), (0, dV), (0, dV), (0, dV)] [] I o) (qr : ∀ v I, Q (.inr v) I → o = (none, HH I)) (y : Int32) (I : MI) (r : (Int32) ⊕ (Unit)) (I1 : MI) (h : B_R_findsBedded_38 y I = some (r, I1)) (hq : Q r I1) : At L X (d + 1) 310 38 [(112, .ref 207), (0, .int y), (0, dV), (0, dV), (0, dV)] [] I o := by
  refine wf_ok z_R_findsBedded hcs ?_ ?_ _ _ _ _ _ ⟨rfl, trivial, trivial, trivial, trivial, trivial⟩ trivial (unm_refl _ _) ((congrFun (e_b_R_findsBedded_38 (L := L) (X := X) F_R_doesLie F_R_greater F_R_has K_R_findsBedded_44 y) I).trans h)
  · intro pc ls st I2 h1 h2 h3 h
    rcases mC_ok h with ⟨hb, h⟩ | ⟨_, h⟩
    · have e := Nat.eq_of_beq_eq_true hb
      subst e
      obtain ⟨hst, h⟩ := mN_ok h
      subst hst
      obtain ⟨a2, n2, h⟩ := gI_ok h
      obtain ⟨n3, h⟩ := gD_ok h
      obtain ⟨n4, h⟩ := gD_ok h
      refine at_leaf (ls2 := [(112, .ref 207), (0, .int y), (0, .int a2), (0, dV), (0, dV)]) h3.1 ⟨Or.inr ⟨_, (h3.2 0 rfl).trans rfl⟩, Or.inr ⟨_, (h3.2 1 rfl).trans rfl⟩, Or.inr n2, Or.inl ⟨rfl, n3⟩, Or.inl ⟨rfl, n4⟩, trivial⟩ ?_
      exact s_R_findsBedded_44 hcs y a2 qb qr _ _ _ h hq
    cases h
  · intro v I2 _ h
    split at h
    · cases h; exact qr _ _ hq
    · cases h
def K_R_findsBedded_38 (x1 : Int32) : M (Unit) :=
  lp (B_R_findsBedded_38) FU x1
theorem s_R_findsBedded_38 {d : Nat} (hcs : AllS L X d (cs_R_findsBedded F_R_doesLie F_R_greater F_R_has)) (x1 : Int32) {o : Option Value × PH} {Q : (Unit) → MI → Prop} (q0 : ∀ v I, Q v I → o = (none, HH I)) (I : MI) (r : Unit) (I1 : MI) (h : K_R_findsBedded_38 x1 I = some (r, I1)) (hq : Q r I1) : At L X (d + 1) 310 38 [(112, .ref 207), (0, .int x1), (0, dV), (0, dV), (0, dV)] [] I o := by
  unfold K_R_findsBedded_38 at h
  have w0 := fun w => at_lp (body := B_R_findsBedded_38) (P := (fun (y : Int32) I => At L X (d + 1) 310 38 [(112, .ref 207), (0, .int y), (0, dV), (0, dV), (0, dV)] [] I o)) (Q := (fun (e : Unit) I => Q e I)) w FU x1 I r I1 h hq
  refine w0 ?_
  intro y I r I1 h hq
  exact b_R_findsBedded_38 hcs (Q := SQ (fun (y : Int32) I => At L X (d + 1) 310 38 [(112, .ref 207), (0, .int y), (0, dV), (0, dV), (0, dV)] [] I o) (fun (e : Unit) I => Q e I)) (fun _ _ w => w) q0 y I r I1 h hq
def K_R_findsBedded_31 : M (Unit) :=
  bn (rd 207 61) fun v1 =>
  K_R_findsBedded_38 (v1 - (1 : Int32))
set_option maxRecDepth 4000 in
theorem e_s_R_findsBedded_31 (f_R_doesLie : Int32 → Int32 → M Int32) (f_R_greater : Int32 → Int32 → M Int32) (f_R_has : Int32 → Int32 → M Int32) (k_38 : Int32 → M (Unit)) : wf (β := Unit) L X q_R_findsBedded 0 (cs_R_findsBedded f_R_doesLie f_R_greater f_R_has) [1] [2, 31, 38, 44, 72, 134, 153] (fun pc ls st => mC (Nat.beq pc 38) (mN st <| gI ls 1 fun a1 => gD ls 2 <| gD ls 3 <| gD ls 4 <| k_38 a1) (fl)) (fun v => match v with | none => rt () | _ => fl) 100 31 [(112, .ref 207), (0, dV), (0, dV), (0, dV), (0, dV)] [] = (bn (rd 207 61) fun v1 =>
  k_38 (v1 - (1 : Int32))) := rfl
theorem s_R_findsBedded_31 {d : Nat} (hcs : AllS L X d (cs_R_findsBedded F_R_doesLie F_R_greater F_R_has)) {o : Option Value × PH} {Q : (Unit) → MI → Prop} (q0 : ∀ v I, Q v I → o = (none, HH I)) (I : MI) (r : Unit) (I1 : MI) (h : K_R_findsBedded_31 I = some (r, I1)) (hq : Q r I1) : At L X (d + 1) 310 31 [(112, .ref 207), (0, dV), (0, dV), (0, dV), (0, dV)] [] I o := by
  refine wf_ok z_R_findsBedded hcs ?_ ?_ _ _ _ _ _ ⟨rfl, trivial, trivial, trivial, trivial, trivial⟩ trivial (unm_refl _ _) ((congrFun (e_s_R_findsBedded_31 (L := L) (X := X) F_R_doesLie F_R_greater F_R_has K_R_findsBedded_38) I).trans h)
  · intro pc ls st I2 h1 h2 h3 h
    rcases mC_ok h with ⟨hb, h⟩ | ⟨_, h⟩
    · have e := Nat.eq_of_beq_eq_true hb
      subst e
      obtain ⟨hst, h⟩ := mN_ok h
      subst hst
      obtain ⟨a1, n1, h⟩ := gI_ok h
      obtain ⟨n2, h⟩ := gD_ok h
      obtain ⟨n3, h⟩ := gD_ok h
      obtain ⟨n4, h⟩ := gD_ok h
      refine at_leaf (ls2 := [(112, .ref 207), (0, .int a1), (0, dV), (0, dV), (0, dV)]) h3.1 ⟨Or.inr ⟨_, (h3.2 0 rfl).trans rfl⟩, Or.inr n1, Or.inl ⟨rfl, n2⟩, Or.inl ⟨rfl, n3⟩, Or.inl ⟨rfl, n4⟩, trivial⟩ ?_
      exact s_R_findsBedded_38 hcs a1 q0 _ _ _ h hq
    cases h
  · intro v I2 _ h
    split at h
    · cases h; exact q0 _ _ hq
    · cases h
def K_R_findsBedded_2 (x1 : Int32) : M (Unit) :=
  bn (lp (B_R_findsBedded_2) FU x1) fun e => K_R_findsBedded_31
theorem s_R_findsBedded_2 {d : Nat} (hcs : AllS L X d (cs_R_findsBedded F_R_doesLie F_R_greater F_R_has)) (x1 : Int32) {o : Option Value × PH} {Q : (Unit) → MI → Prop} (q0 : ∀ v I, Q v I → o = (none, HH I)) (I : MI) (r : Unit) (I1 : MI) (h : K_R_findsBedded_2 x1 I = some (r, I1)) (hq : Q r I1) : At L X (d + 1) 310 2 [(112, .ref 207), (0, .int x1), (0, dV), (0, dV), (0, dV)] [] I o := by
  unfold K_R_findsBedded_2 at h
  obtain ⟨e, I2, h1, h2⟩ := bn_some h
  have w0 := fun w => at_lp (body := B_R_findsBedded_2) (P := (fun (y : Int32) I => At L X (d + 1) 310 2 [(112, .ref 207), (0, .int y), (0, dV), (0, dV), (0, dV)] [] I o)) (Q := (fun (e : (Unit)) I => (K_R_findsBedded_31) I = some (r, I1))) w FU x1 I e I2 h1 h2
  refine w0 ?_
  intro y I r2 I3 h hq2
  exact b_R_findsBedded_2 hcs (Q := SQ (fun (y : Int32) I => At L X (d + 1) 310 2 [(112, .ref 207), (0, .int y), (0, dV), (0, dV), (0, dV)] [] I o) (fun (e : (Unit)) I => (K_R_findsBedded_31) I = some (r, I1))) (fun _ _ w => w) (fun y I w => s_R_findsBedded_31 hcs q0 _ _ _ w hq) y I r2 I3 h hq2
def F_R_findsBedded : M (Unit) :=
  K_R_findsBedded_2 (0 : Int32)
set_option maxRecDepth 4000 in
theorem e_s_R_findsBedded_0 (f_R_doesLie : Int32 → Int32 → M Int32) (f_R_greater : Int32 → Int32 → M Int32) (f_R_has : Int32 → Int32 → M Int32) (k_2 : Int32 → M (Unit)) : wf (β := Unit) L X q_R_findsBedded 0 (cs_R_findsBedded f_R_doesLie f_R_greater f_R_has) [1] [2, 31, 38, 44, 72, 134, 153] (fun pc ls st => mC (Nat.beq pc 2) (mN st <| gI ls 1 fun a1 => gD ls 2 <| gD ls 3 <| gD ls 4 <| k_2 a1) (fl)) (fun v => match v with | none => rt () | _ => fl) 100 0 [(112, .ref 207), (0, dV), (0, dV), (0, dV), (0, dV)] [] = (k_2 (0 : Int32)) := rfl
theorem s_R_findsBedded_0 {d : Nat} (hcs : AllS L X d (cs_R_findsBedded F_R_doesLie F_R_greater F_R_has)) {o : Option Value × PH} {Q : (Unit) → MI → Prop} (q0 : ∀ v I, Q v I → o = (none, HH I)) (I : MI) (r : Unit) (I1 : MI) (h : F_R_findsBedded I = some (r, I1)) (hq : Q r I1) : At L X (d + 1) 310 0 [(112, .ref 207), (0, dV), (0, dV), (0, dV), (0, dV)] [] I o := by
  refine wf_ok z_R_findsBedded hcs ?_ ?_ _ _ _ _ _ ⟨rfl, trivial, trivial, trivial, trivial, trivial⟩ trivial (unm_refl _ _) ((congrFun (e_s_R_findsBedded_0 (L := L) (X := X) F_R_doesLie F_R_greater F_R_has K_R_findsBedded_2) I).trans h)
  · intro pc ls st I2 h1 h2 h3 h
    rcases mC_ok h with ⟨hb, h⟩ | ⟨_, h⟩
    · have e := Nat.eq_of_beq_eq_true hb
      subst e
      obtain ⟨hst, h⟩ := mN_ok h
      subst hst
      obtain ⟨a1, n1, h⟩ := gI_ok h
      obtain ⟨n2, h⟩ := gD_ok h
      obtain ⟨n3, h⟩ := gD_ok h
      obtain ⟨n4, h⟩ := gD_ok h
      refine at_leaf (ls2 := [(112, .ref 207), (0, .int a1), (0, dV), (0, dV), (0, dV)]) h3.1 ⟨Or.inr ⟨_, (h3.2 0 rfl).trans rfl⟩, Or.inr n1, Or.inl ⟨rfl, n2⟩, Or.inl ⟨rfl, n3⟩, Or.inl ⟨rfl, n4⟩, trivial⟩ ?_
      exact s_R_findsBedded_2 hcs a1 q0 _ _ _ h hq
    cases h
  · intro v I2 _ h
    split at h
    · cases h; exact q0 _ _ hq
    · cases h
theorem w_R_findsBedded {d : Nat} (hcs : AllS L X d (cs_R_findsBedded F_R_doesLie F_R_greater F_R_has)) : Snd L X (d + 1) 310 1 (W_R_findsBedded F_R_findsBedded) := by
  refine ⟨_, z_R_findsBedded, rfl, fun β args k I r hty hlen h => ?_⟩
  unfold W_R_findsBedded at h
  split at h
  · rename_i t0 a0
    obtain ⟨hb0, h⟩ := mB_ok h
    have e0 := Nat.eq_of_beq_eq_true hb0
    have g0 : okB 112 a0 = true := e0 ▸ hty.1
    have e20 := one_112 g0
    subst e20
    obtain ⟨v, I1, h1, h2⟩ := bn_some h
    refine ⟨gf_obj (c := 12) (by decide) g0, rfl, none, I1, trivial, ?_, h2⟩
    exact s_R_findsBedded_0 hcs   (Q := fun w I => w = v ∧ I = I1) (fun w I q => by obtain ⟨rfl, rfl⟩ := q; rfl) I v I1 h1 ⟨rfl, rfl⟩
  · cases h
theorem S_R_findsBedded {d : Nat} (hd : 3 ≤ d) : Snd L X d 310 1 (W_R_findsBedded F_R_findsBedded) := by
  obtain ⟨e, rfl⟩ : ∃ e, d = e + 1 := ⟨d - 1, by omega⟩
  exact w_R_findsBedded ⟨S_R_doesLie (by omega), S_R_greater (by omega), S_R_has (by omega), trivial⟩
set_option maxRecDepth 100000 in
theorem z_R_beds : pT[309]? = some (q_R_beds, 2, 2, 1, 12) := rfl
def W_R_beds (F : Int32 → M Int32) : CSem := fun _ args k => match args with
  | [(t0, .ref a0), (_, .int a1)] => mB (Nat.beq t0 112) <| bn (F a1) fun v => k (some (0, .int v))
  | _ => fl
def cs_R_beds (f_R_bedOf : Int32 → M Int32) (f_R_findsBedded : M Unit) (f_R_isIn : Int32 → Int32 → Int32 → M Int32) : List (Nat × Nat × CSem) := [(312, 2, W_R_bedOf f_R_bedOf), (310, 1, W_R_findsBedded f_R_findsBedded), (195, 4, W_R_isIn f_R_isIn)]
def K_R_beds_28 (x1 : Int32) : M (Int32) :=
  bn (F_R_findsBedded) fun _ =>
  (if x1 = 0 then
    bn (ld 2304 247 (0 : Int32)) fun v2 =>
    rt v2
  else
    bn (F_R_bedOf (x1 - (10 : Int32))) fun v1 =>
    rt v1)
set_option maxRecDepth 4000 in
theorem e_s_R_beds_28 (f_R_bedOf : Int32 → M Int32) (f_R_findsBedded : M Unit) (f_R_isIn : Int32 → Int32 → Int32 → M Int32) (x1 : Int32) : wf (β := Int32) L X q_R_beds 1 (cs_R_beds f_R_bedOf f_R_findsBedded f_R_isIn) [] [28] (fun _ _ _ => fl) (fun v => match v with | some (_, .int x) => rt x | _ => fl) 36 28 [(112, .ref 207), (0, .int x1)] [] = (bn (f_R_findsBedded) fun _ =>
  (if x1 = 0 then
    bn (ld 2304 247 (0 : Int32)) fun v2 =>
    rt v2
  else
    bn (f_R_bedOf (x1 - (10 : Int32))) fun v1 =>
    rt v1)) := rfl
theorem s_R_beds_28 {d : Nat} (hcs : AllS L X d (cs_R_beds F_R_bedOf F_R_findsBedded F_R_isIn)) (x1 : Int32) {o : Option Value × PH} {Q : (Int32) → MI → Prop} (q0 : ∀ v I, Q v I → o = (some (.int v), HH I)) (I : MI) (r : Int32) (I1 : MI) (h : K_R_beds_28 x1 I = some (r, I1)) (hq : Q r I1) : At L X (d + 1) 309 28 [(112, .ref 207), (0, .int x1)] [] I o := by
  refine wf_ok z_R_beds hcs ?_ ?_ _ _ _ _ _ ⟨rfl, trivial, trivial⟩ trivial (unm_refl _ _) ((congrFun (e_s_R_beds_28 (L := L) (X := X) F_R_bedOf F_R_findsBedded F_R_isIn x1) I).trans h)
  · intro pc ls st I2 h1 h2 h3 h
    cases h
  · intro v I2 _ h
    split at h
    · cases h; exact q0 _ _ hq
    · cases h
def F_R_beds (x1 : Int32) : M (Int32) :=
  bn (wr 207 0 (0 : Int32)) fun _ =>
  (if x1 = 0 then
    K_R_beds_28 x1
  else
    bn (rd 207 61) fun v1 =>
    bn (F_R_isIn x1 (10 : Int32) ((9 : Int32) + v1)) fun v2 =>
    (if v2 = 0 then
      rt (-1 : Int32)
    else
      K_R_beds_28 x1))
set_option maxRecDepth 4000 in
theorem e_s_R_beds_0 (f_R_bedOf : Int32 → M Int32) (f_R_findsBedded : M Unit) (f_R_isIn : Int32 → Int32 → Int32 → M Int32) (k_28 : Int32 → M (Int32)) (x1 : Int32) : wf (β := Int32) L X q_R_beds 1 (cs_R_beds f_R_bedOf f_R_findsBedded f_R_isIn) [] [28] (fun pc ls st => mC (Nat.beq pc 28) (mN st <| k_28 x1) (fl)) (fun v => match v with | some (_, .int x) => rt x | _ => fl) 36 0 [(112, .ref 207), (0, .int x1)] [] = (bn (wr 207 0 (0 : Int32)) fun _ =>
  (if x1 = 0 then
    k_28 x1
  else
    bn (rd 207 61) fun v1 =>
    bn (f_R_isIn x1 (10 : Int32) ((9 : Int32) + v1)) fun v2 =>
    (if v2 = 0 then
      rt (-1 : Int32)
    else
      k_28 x1))) := rfl
theorem s_R_beds_0 {d : Nat} (hcs : AllS L X d (cs_R_beds F_R_bedOf F_R_findsBedded F_R_isIn)) (x1 : Int32) {o : Option Value × PH} {Q : (Int32) → MI → Prop} (q0 : ∀ v I, Q v I → o = (some (.int v), HH I)) (I : MI) (r : Int32) (I1 : MI) (h : F_R_beds x1 I = some (r, I1)) (hq : Q r I1) : At L X (d + 1) 309 0 [(112, .ref 207), (0, .int x1)] [] I o := by
  refine wf_ok z_R_beds hcs ?_ ?_ _ _ _ _ _ ⟨rfl, trivial, trivial⟩ trivial (unm_refl _ _) ((congrFun (e_s_R_beds_0 (L := L) (X := X) F_R_bedOf F_R_findsBedded F_R_isIn K_R_beds_28 x1) I).trans h)
  · intro pc ls st I2 h1 h2 h3 h
    rcases mC_ok h with ⟨hb, h⟩ | ⟨_, h⟩
    · have e := Nat.eq_of_beq_eq_true hb
      subst e
      obtain ⟨hst, h⟩ := mN_ok h
      subst hst
      refine at_leaf (ls2 := [(112, .ref 207), (0, .int x1)]) h3.1 ⟨Or.inr ⟨_, (h3.2 0 rfl).trans rfl⟩, Or.inr ⟨_, (h3.2 1 rfl).trans rfl⟩, trivial⟩ ?_
      exact s_R_beds_28 hcs x1 q0 _ _ _ h hq
    cases h
  · intro v I2 _ h
    split at h
    · cases h; exact q0 _ _ hq
    · cases h
theorem w_R_beds {d : Nat} (hcs : AllS L X d (cs_R_beds F_R_bedOf F_R_findsBedded F_R_isIn)) : Snd L X (d + 1) 309 2 (W_R_beds F_R_beds) := by
  refine ⟨_, z_R_beds, rfl, fun β args k I r hty hlen h => ?_⟩
  unfold W_R_beds at h
  split at h
  · rename_i t0 a0 u1 a1
    obtain ⟨hb0, h⟩ := mB_ok h
    have e0 := Nat.eq_of_beq_eq_true hb0
    have g0 : okB 112 a0 = true := e0 ▸ hty.1
    have e20 := one_112 g0
    subst e20
    obtain ⟨v, I1, h1, h2⟩ := bn_some h
    refine ⟨gf_obj (c := 12) (by decide) g0, rfl, some (0, .int v), I1, trivial, ?_, h2⟩
    exact s_R_beds_0 hcs a1  (Q := fun w I => w = v ∧ I = I1) (fun w I q => by obtain ⟨rfl, rfl⟩ := q; rfl) I v I1 h1 ⟨rfl, rfl⟩
  · cases h
theorem S_R_beds {d : Nat} (hd : 4 ≤ d) : Snd L X d 309 2 (W_R_beds F_R_beds) := by
  obtain ⟨e, rfl⟩ : ∃ e, d = e + 1 := ⟨d - 1, by omega⟩
  exact w_R_beds ⟨S_R_bedOf (by omega), S_R_findsBedded (by omega), S_R_isIn (by omega), trivial⟩
set_option maxRecDepth 100000 in
theorem z_R_common : pT[304]? = some (q_R_common, 3, 6, 1, 12) := rfl
def W_R_common (F : Int32 → Int32 → M Int32) : CSem := fun _ args k => match args with
  | [(t0, .ref a0), (_, .int a1), (_, .int a2)] => mB (Nat.beq t0 112) <| bn (F a1 a2) fun v => k (some (0, .int v))
  | _ => fl
def cs_R_common : List (Nat × Nat × CSem) := []
def B_R_common_5 (y : Int32 × Int32) : M ((Int32 × Int32) ⊕ (Int32)) :=
  (if y.2 = 0 then
    rt (.inr y.1)
  else
    dvI y.2 <|
    rt (.inl (y.2, (y.1 - y.1 / y.2 * y.2))))
set_option maxRecDepth 4000 in
theorem e_b_R_common_5 (y : Int32 × Int32) : wf (β := (Int32 × Int32) ⊕ (Int32)) L X q_R_common 1 cs_R_common [3, 4, 5] [5] (fun pc ls st => mC (Nat.beq pc 5) (mN st <| gD ls 0 <| gD ls 1 <| gD ls 2 <| gI ls 3 fun a3 => gI ls 4 fun a4 => gD ls 5 <| rt (.inl (a3, a4))) (fl)) (fun v => match v with | some (_, .int x) => rt (.inr x) | _ => fl) 22 5 [(0, dV), (0, dV), (0, dV), (0, .int y.1), (0, .int y.2), (0, dV)] [] = ((if y.2 = 0 then
    rt (.inr y.1)
  else
    dvI y.2 <|
    rt (.inl (y.2, (y.1 - y.1 / y.2 * y.2))))) := rfl
theorem b_R_common_5 {d : Nat} (hcs : AllS L X d cs_R_common) {o : Option Value × PH} {Q : ((Int32 × Int32) ⊕ (Int32)) → MI → Prop} (qb : ∀ y I, Q (.inl y) I → At L X (d + 1) 304 5 [(0, dV), (0, dV), (0, dV), (0, .int y.1), (0, .int y.2), (0, dV)] [] I o) (qr : ∀ v I, Q (.inr v) I → o = (some (.int v), HH I)) (y : Int32 × Int32) (I : MI) (r : (Int32 × Int32) ⊕ (Int32)) (I1 : MI) (h : B_R_common_5 y I = some (r, I1)) (hq : Q r I1) : At L X (d + 1) 304 5 [(0, dV), (0, dV), (0, dV), (0, .int y.1), (0, .int y.2), (0, dV)] [] I o := by
  refine wf_ok z_R_common hcs ?_ ?_ _ _ _ _ _ ⟨trivial, trivial, trivial, trivial, trivial, trivial, trivial⟩ trivial (unm_refl _ _) ((congrFun (e_b_R_common_5 (L := L) (X := X) y) I).trans h)
  · intro pc ls st I2 h1 h2 h3 h
    rcases mC_ok h with ⟨hb, h⟩ | ⟨_, h⟩
    · have e := Nat.eq_of_beq_eq_true hb
      subst e
      obtain ⟨hst, h⟩ := mN_ok h
      subst hst
      obtain ⟨n0, h⟩ := gD_ok h
      obtain ⟨n1, h⟩ := gD_ok h
      obtain ⟨n2, h⟩ := gD_ok h
      obtain ⟨a3, n3, h⟩ := gI_ok h
      obtain ⟨a4, n4, h⟩ := gI_ok h
      obtain ⟨n5, h⟩ := gD_ok h
      refine at_leaf (ls2 := [(0, dV), (0, dV), (0, dV), (0, .int a3), (0, .int a4), (0, dV)]) h3.1 ⟨Or.inl ⟨rfl, n0⟩, Or.inl ⟨rfl, n1⟩, Or.inl ⟨rfl, n2⟩, Or.inr n3, Or.inr n4, Or.inl ⟨rfl, n5⟩, trivial⟩ ?_
      cases h; exact qb _ _ hq
    cases h
  · intro v I2 _ h
    split at h
    · cases h; exact qr _ _ hq
    · cases h
def K_R_common_5 (x3 : Int32) (x4 : Int32) : M (Int32) :=
  lp (B_R_common_5) FU (x3, x4)
theorem s_R_common_5 {d : Nat} (hcs : AllS L X d cs_R_common) (x3 : Int32) (x4 : Int32) {o : Option Value × PH} {Q : (Int32) → MI → Prop} (q0 : ∀ v I, Q v I → o = (some (.int v), HH I)) (I : MI) (r : Int32) (I1 : MI) (h : K_R_common_5 x3 x4 I = some (r, I1)) (hq : Q r I1) : At L X (d + 1) 304 5 [(0, dV), (0, dV), (0, dV), (0, .int x3), (0, .int x4), (0, dV)] [] I o := by
  unfold K_R_common_5 at h
  have w0 := fun w => at_lp (body := B_R_common_5) (P := (fun (y : Int32 × Int32) I => At L X (d + 1) 304 5 [(0, dV), (0, dV), (0, dV), (0, .int y.1), (0, .int y.2), (0, dV)] [] I o)) (Q := (fun (e : Int32) I => Q e I)) w FU (x3, x4) I r I1 h hq
  refine w0 ?_
  intro y I r I1 h hq
  exact b_R_common_5 hcs (Q := SQ (fun (y : Int32 × Int32) I => At L X (d + 1) 304 5 [(0, dV), (0, dV), (0, dV), (0, .int y.1), (0, .int y.2), (0, dV)] [] I o) (fun (e : Int32) I => Q e I)) (fun _ _ w => w) q0 y I r I1 h hq
def F_R_common (x1 : Int32) (x2 : Int32) : M (Int32) :=
  K_R_common_5 x1 x2
set_option maxRecDepth 4000 in
theorem e_s_R_common_0 (k_5 : Int32 → Int32 → M (Int32)) (x1 : Int32) (x2 : Int32) : wf (β := Int32) L X q_R_common 1 cs_R_common [3, 4] [5] (fun pc ls st => mC (Nat.beq pc 5) (mN st <| gD ls 0 <| gD ls 1 <| gD ls 2 <| gI ls 3 fun a3 => gI ls 4 fun a4 => gD ls 5 <| k_5 a3 a4) (fl)) (fun v => match v with | some (_, .int x) => rt x | _ => fl) 22 0 [(112, .ref 207), (0, .int x1), (0, .int x2), (0, dV), (0, dV), (0, dV)] [] = (k_5 x1 x2) := rfl
theorem s_R_common_0 {d : Nat} (hcs : AllS L X d cs_R_common) (x1 : Int32) (x2 : Int32) {o : Option Value × PH} {Q : (Int32) → MI → Prop} (q0 : ∀ v I, Q v I → o = (some (.int v), HH I)) (I : MI) (r : Int32) (I1 : MI) (h : F_R_common x1 x2 I = some (r, I1)) (hq : Q r I1) : At L X (d + 1) 304 0 [(112, .ref 207), (0, .int x1), (0, .int x2), (0, dV), (0, dV), (0, dV)] [] I o := by
  refine wf_ok z_R_common hcs ?_ ?_ _ _ _ _ _ ⟨rfl, trivial, trivial, trivial, trivial, trivial, trivial⟩ trivial (unm_refl _ _) ((congrFun (e_s_R_common_0 (L := L) (X := X) K_R_common_5 x1 x2) I).trans h)
  · intro pc ls st I2 h1 h2 h3 h
    rcases mC_ok h with ⟨hb, h⟩ | ⟨_, h⟩
    · have e := Nat.eq_of_beq_eq_true hb
      subst e
      obtain ⟨hst, h⟩ := mN_ok h
      subst hst
      obtain ⟨n0, h⟩ := gD_ok h
      obtain ⟨n1, h⟩ := gD_ok h
      obtain ⟨n2, h⟩ := gD_ok h
      obtain ⟨a3, n3, h⟩ := gI_ok h
      obtain ⟨a4, n4, h⟩ := gI_ok h
      obtain ⟨n5, h⟩ := gD_ok h
      refine at_leaf (ls2 := [(0, dV), (0, dV), (0, dV), (0, .int a3), (0, .int a4), (0, dV)]) h3.1 ⟨Or.inl ⟨rfl, n0⟩, Or.inl ⟨rfl, n1⟩, Or.inl ⟨rfl, n2⟩, Or.inr n3, Or.inr n4, Or.inl ⟨rfl, n5⟩, trivial⟩ ?_
      exact s_R_common_5 hcs a3 a4 q0 _ _ _ h hq
    cases h
  · intro v I2 _ h
    split at h
    · cases h; exact q0 _ _ hq
    · cases h
theorem w_R_common {d : Nat} (hcs : AllS L X d cs_R_common) : Snd L X (d + 1) 304 3 (W_R_common F_R_common) := by
  refine ⟨_, z_R_common, rfl, fun β args k I r hty hlen h => ?_⟩
  unfold W_R_common at h
  split at h
  · rename_i t0 a0 u1 a1 u2 a2
    obtain ⟨hb0, h⟩ := mB_ok h
    have e0 := Nat.eq_of_beq_eq_true hb0
    have g0 : okB 112 a0 = true := e0 ▸ hty.1
    have e20 := one_112 g0
    subst e20
    obtain ⟨v, I1, h1, h2⟩ := bn_some h
    refine ⟨gf_obj (c := 12) (by decide) g0, rfl, some (0, .int v), I1, trivial, ?_, h2⟩
    exact s_R_common_0 hcs a1 a2  (Q := fun w I => w = v ∧ I = I1) (fun w I q => by obtain ⟨rfl, rfl⟩ := q; rfl) I v I1 h1 ⟨rfl, rfl⟩
  · cases h
theorem S_R_common {d : Nat} (hd : 1 ≤ d) : Snd L X d 304 3 (W_R_common F_R_common) := by
  obtain ⟨e, rfl⟩ : ∃ e, d = e + 1 := ⟨d - 1, by omega⟩
  exact w_R_common trivial
set_option maxRecDepth 100000 in
theorem z_R_birthdays : pT[303]? = some (q_R_birthdays, 4, 10, 1, 12) := rfl
def W_R_birthdays (F : Int32 → Int32 → Int32 → M Int32) : CSem := fun _ args k => match args with
  | [(t0, .ref a0), (_, .int a1), (_, .int a2), (_, .int a3)] => mB (Nat.beq t0 112) <| bn (F a1 a2 a3) fun v => k (some (0, .int v))
  | _ => fl
def cs_R_birthdays (f_R_common : Int32 → Int32 → M Int32) (f_R_greater : Int32 → Int32 → M Int32) (f_R_isIn : Int32 → Int32 → Int32 → M Int32) : List (Nat × Nat × CSem) := [(304, 3, W_R_common f_R_common), (269, 3, W_R_greater f_R_greater), (195, 4, W_R_isIn f_R_isIn)]
def K_R_birthdays_140 (x1 : Int32) (x2 : Int32) (x3 : Int32) (x4 : Int32) (x5 : Int32) (x6 : Int32) (x7 : Int32) (x8 : Int32) : M ((Int32 × Int32 × Int32) ⊕ ((Int32 × Int32))) :=
  rt (.inl ((x4 * x7), (x5 * x8), (x6 + (1 : Int32))))
set_option maxRecDepth 4000 in
theorem e_s_R_birthdays_140 (f_R_common : Int32 → Int32 → M Int32) (f_R_greater : Int32 → Int32 → M Int32) (f_R_isIn : Int32 → Int32 → Int32 → M Int32) (x1 : Int32) (x2 : Int32) (x3 : Int32) (x4 : Int32) (x5 : Int32) (x6 : Int32) (x7 : Int32) (x8 : Int32) : wf (β := (Int32 × Int32 × Int32) ⊕ ((Int32 × Int32))) L X q_R_birthdays 1 (cs_R_birthdays f_R_common f_R_greater f_R_isIn) [4, 5, 6] [48, 92, 116, 140, 160] (fun pc ls st => mC (Nat.beq pc 48) (mN st <| gI ls 4 fun a4 => gI ls 5 fun a5 => gI ls 6 fun a6 => gD ls 7 <| gD ls 8 <| gD ls 9 <| rt (.inl (a4, a5, a6))) (fl)) (fun _ => fl) 103 140 [(112, .ref 207), (0, .int x1), (0, .int x2), (0, .int x3), (0, .int x4), (0, .int x5), (0, .int x6), (0, .int x7), (0, .int x8), (0, dV)] [] = (rt (.inl ((x4 * x7), (x5 * x8), (x6 + (1 : Int32))))) := rfl
theorem s_R_birthdays_140 {d : Nat} (hcs : AllS L X d (cs_R_birthdays F_R_common F_R_greater F_R_isIn)) (x1 : Int32) (x2 : Int32) (x3 : Int32) (x4 : Int32) (x5 : Int32) (x6 : Int32) (x7 : Int32) (x8 : Int32) {o : Option Value × PH} {Q : ((Int32 × Int32 × Int32) ⊕ ((Int32 × Int32))) → MI → Prop} (qb : ∀ y I, Q (.inl y) I → At L X (d + 1) 303 48 [(112, .ref 207), (0, .int x1), (0, .int x2), (0, .int x3), (0, .int y.1), (0, .int y.2.1), (0, .int y.2.2), (0, dV), (0, dV), (0, dV)] [] I o) (qe160 : ∀ y I, Q (.inr y) I → At L X (d + 1) 303 160 [(0, dV), (0, dV), (0, dV), (0, .int x3), (0, .int y.1), (0, .int y.2), (0, dV), (0, dV), (0, dV), (0, dV)] [] I o) (I : MI) (r : (Int32 × Int32 × Int32) ⊕ ((Int32 × Int32))) (I1 : MI) (h : K_R_birthdays_140 x1 x2 x3 x4 x5 x6 x7 x8 I = some (r, I1)) (hq : Q r I1) : At L X (d + 1) 303 140 [(112, .ref 207), (0, .int x1), (0, .int x2), (0, .int x3), (0, .int x4), (0, .int x5), (0, .int x6), (0, .int x7), (0, .int x8), (0, dV)] [] I o := by
  refine wf_ok z_R_birthdays hcs ?_ ?_ _ _ _ _ _ ⟨rfl, trivial, trivial, trivial, trivial, trivial, trivial, trivial, trivial, trivial, trivial⟩ trivial (unm_refl _ _) ((congrFun (e_s_R_birthdays_140 (L := L) (X := X) F_R_common F_R_greater F_R_isIn x1 x2 x3 x4 x5 x6 x7 x8) I).trans h)
  · intro pc ls st I2 h1 h2 h3 h
    rcases mC_ok h with ⟨hb, h⟩ | ⟨_, h⟩
    · have e := Nat.eq_of_beq_eq_true hb
      subst e
      obtain ⟨hst, h⟩ := mN_ok h
      subst hst
      obtain ⟨a4, n4, h⟩ := gI_ok h
      obtain ⟨a5, n5, h⟩ := gI_ok h
      obtain ⟨a6, n6, h⟩ := gI_ok h
      obtain ⟨n7, h⟩ := gD_ok h
      obtain ⟨n8, h⟩ := gD_ok h
      obtain ⟨n9, h⟩ := gD_ok h
      refine at_leaf (ls2 := [(112, .ref 207), (0, .int x1), (0, .int x2), (0, .int x3), (0, .int a4), (0, .int a5), (0, .int a6), (0, dV), (0, dV), (0, dV)]) h3.1 ⟨Or.inr ⟨_, (h3.2 0 rfl).trans rfl⟩, Or.inr ⟨_, (h3.2 1 rfl).trans rfl⟩, Or.inr ⟨_, (h3.2 2 rfl).trans rfl⟩, Or.inr ⟨_, (h3.2 3 rfl).trans rfl⟩, Or.inr n4, Or.inr n5, Or.inr n6, Or.inl ⟨rfl, n7⟩, Or.inl ⟨rfl, n8⟩, Or.inl ⟨rfl, n9⟩, trivial⟩ ?_
      cases h; exact qb _ _ hq
    cases h
  · intro v I2 _ h
    cases h
def K_R_birthdays_116 (x1 : Int32) (x2 : Int32) (x3 : Int32) (x4 : Int32) (x5 : Int32) (x6 : Int32) (x7 : Int32) (x8 : Int32) : M ((Int32 × Int32 × Int32) ⊕ ((Int32 × Int32))) :=
  bn (F_R_common x7 x5) fun v1 =>
  dvI v1 <|
  dvI v1 <|
  K_R_birthdays_140 x1 x2 x3 x4 (x5 / v1) x6 (x7 / v1) x8
set_option maxRecDepth 4000 in
theorem e_s_R_birthdays_116 (f_R_common : Int32 → Int32 → M Int32) (f_R_greater : Int32 → Int32 → M Int32) (f_R_isIn : Int32 → Int32 → Int32 → M Int32) (k_140 : Int32 → Int32 → Int32 → Int32 → Int32 → Int32 → Int32 → Int32 → M ((Int32 × Int32 × Int32) ⊕ ((Int32 × Int32)))) (x1 : Int32) (x2 : Int32) (x3 : Int32) (x4 : Int32) (x5 : Int32) (x6 : Int32) (x7 : Int32) (x8 : Int32) : wf (β := (Int32 × Int32 × Int32) ⊕ ((Int32 × Int32))) L X q_R_birthdays 1 (cs_R_birthdays f_R_common f_R_greater f_R_isIn) [5, 7, 9] [48, 92, 116, 140, 160] (fun pc ls st => mC (Nat.beq pc 140) (mN st <| gI ls 5 fun a5 => gI ls 7 fun a7 => gD ls 9 <| k_140 x1 x2 x3 x4 a5 x6 a7 x8) (fl)) (fun _ => fl) 103 116 [(112, .ref 207), (0, .int x1), (0, .int x2), (0, .int x3), (0, .int x4), (0, .int x5), (0, .int x6), (0, .int x7), (0, .int x8), (0, dV)] [] = (bn (f_R_common x7 x5) fun v1 =>
  dvI v1 <|
  dvI v1 <|
  k_140 x1 x2 x3 x4 (x5 / v1) x6 (x7 / v1) x8) := rfl
theorem s_R_birthdays_116 {d : Nat} (hcs : AllS L X d (cs_R_birthdays F_R_common F_R_greater F_R_isIn)) (x1 : Int32) (x2 : Int32) (x3 : Int32) (x4 : Int32) (x5 : Int32) (x6 : Int32) (x7 : Int32) (x8 : Int32) {o : Option Value × PH} {Q : ((Int32 × Int32 × Int32) ⊕ ((Int32 × Int32))) → MI → Prop} (qb : ∀ y I, Q (.inl y) I → At L X (d + 1) 303 48 [(112, .ref 207), (0, .int x1), (0, .int x2), (0, .int x3), (0, .int y.1), (0, .int y.2.1), (0, .int y.2.2), (0, dV), (0, dV), (0, dV)] [] I o) (qe160 : ∀ y I, Q (.inr y) I → At L X (d + 1) 303 160 [(0, dV), (0, dV), (0, dV), (0, .int x3), (0, .int y.1), (0, .int y.2), (0, dV), (0, dV), (0, dV), (0, dV)] [] I o) (I : MI) (r : (Int32 × Int32 × Int32) ⊕ ((Int32 × Int32))) (I1 : MI) (h : K_R_birthdays_116 x1 x2 x3 x4 x5 x6 x7 x8 I = some (r, I1)) (hq : Q r I1) : At L X (d + 1) 303 116 [(112, .ref 207), (0, .int x1), (0, .int x2), (0, .int x3), (0, .int x4), (0, .int x5), (0, .int x6), (0, .int x7), (0, .int x8), (0, dV)] [] I o := by
  refine wf_ok z_R_birthdays hcs ?_ ?_ _ _ _ _ _ ⟨rfl, trivial, trivial, trivial, trivial, trivial, trivial, trivial, trivial, trivial, trivial⟩ trivial (unm_refl _ _) ((congrFun (e_s_R_birthdays_116 (L := L) (X := X) F_R_common F_R_greater F_R_isIn K_R_birthdays_140 x1 x2 x3 x4 x5 x6 x7 x8) I).trans h)
  · intro pc ls st I2 h1 h2 h3 h
    rcases mC_ok h with ⟨hb, h⟩ | ⟨_, h⟩
    · have e := Nat.eq_of_beq_eq_true hb
      subst e
      obtain ⟨hst, h⟩ := mN_ok h
      subst hst
      obtain ⟨a5, n5, h⟩ := gI_ok h
      obtain ⟨a7, n7, h⟩ := gI_ok h
      obtain ⟨n9, h⟩ := gD_ok h
      refine at_leaf (ls2 := [(112, .ref 207), (0, .int x1), (0, .int x2), (0, .int x3), (0, .int x4), (0, .int a5), (0, .int x6), (0, .int a7), (0, .int x8), (0, dV)]) h3.1 ⟨Or.inr ⟨_, (h3.2 0 rfl).trans rfl⟩, Or.inr ⟨_, (h3.2 1 rfl).trans rfl⟩, Or.inr ⟨_, (h3.2 2 rfl).trans rfl⟩, Or.inr ⟨_, (h3.2 3 rfl).trans rfl⟩, Or.inr ⟨_, (h3.2 4 rfl).trans rfl⟩, Or.inr n5, Or.inr ⟨_, (h3.2 6 rfl).trans rfl⟩, Or.inr n7, Or.inr ⟨_, (h3.2 8 rfl).trans rfl⟩, Or.inl ⟨rfl, n9⟩, trivial⟩ ?_
      exact s_R_birthdays_140 hcs x1 x2 x3 x4 a5 x6 a7 x8 qb qe160 _ _ _ h hq
    cases h
  · intro v I2 _ h
    cases h
def K_R_birthdays_92 (x1 : Int32) (x2 : Int32) (x3 : Int32) (x4 : Int32) (x5 : Int32) (x6 : Int32) (x7 : Int32) (x8 : Int32) : M ((Int32 × Int32 × Int32) ⊕ ((Int32 × Int32))) :=
  bn (F_R_common x4 x8) fun v1 =>
  dvI v1 <|
  dvI v1 <|
  K_R_birthdays_116 x1 x2 x3 (x4 / v1) x5 x6 x7 (x8 / v1)
set_option maxRecDepth 4000 in
theorem e_s_R_birthdays_92 (f_R_common : Int32 → Int32 → M Int32) (f_R_greater : Int32 → Int32 → M Int32) (f_R_isIn : Int32 → Int32 → Int32 → M Int32) (k_116 : Int32 → Int32 → Int32 → Int32 → Int32 → Int32 → Int32 → Int32 → M ((Int32 × Int32 × Int32) ⊕ ((Int32 × Int32)))) (x1 : Int32) (x2 : Int32) (x3 : Int32) (x4 : Int32) (x5 : Int32) (x6 : Int32) (x7 : Int32) (x8 : Int32) : wf (β := (Int32 × Int32 × Int32) ⊕ ((Int32 × Int32))) L X q_R_birthdays 1 (cs_R_birthdays f_R_common f_R_greater f_R_isIn) [4, 8, 9] [48, 92, 116, 140, 160] (fun pc ls st => mC (Nat.beq pc 116) (mN st <| gI ls 4 fun a4 => gI ls 8 fun a8 => gD ls 9 <| k_116 x1 x2 x3 a4 x5 x6 x7 a8) (fl)) (fun _ => fl) 103 92 [(112, .ref 207), (0, .int x1), (0, .int x2), (0, .int x3), (0, .int x4), (0, .int x5), (0, .int x6), (0, .int x7), (0, .int x8), (0, dV)] [] = (bn (f_R_common x4 x8) fun v1 =>
  dvI v1 <|
  dvI v1 <|
  k_116 x1 x2 x3 (x4 / v1) x5 x6 x7 (x8 / v1)) := rfl
theorem s_R_birthdays_92 {d : Nat} (hcs : AllS L X d (cs_R_birthdays F_R_common F_R_greater F_R_isIn)) (x1 : Int32) (x2 : Int32) (x3 : Int32) (x4 : Int32) (x5 : Int32) (x6 : Int32) (x7 : Int32) (x8 : Int32) {o : Option Value × PH} {Q : ((Int32 × Int32 × Int32) ⊕ ((Int32 × Int32))) → MI → Prop} (qb : ∀ y I, Q (.inl y) I → At L X (d + 1) 303 48 [(112, .ref 207), (0, .int x1), (0, .int x2), (0, .int x3), (0, .int y.1), (0, .int y.2.1), (0, .int y.2.2), (0, dV), (0, dV), (0, dV)] [] I o) (qe160 : ∀ y I, Q (.inr y) I → At L X (d + 1) 303 160 [(0, dV), (0, dV), (0, dV), (0, .int x3), (0, .int y.1), (0, .int y.2), (0, dV), (0, dV), (0, dV), (0, dV)] [] I o) (I : MI) (r : (Int32 × Int32 × Int32) ⊕ ((Int32 × Int32))) (I1 : MI) (h : K_R_birthdays_92 x1 x2 x3 x4 x5 x6 x7 x8 I = some (r, I1)) (hq : Q r I1) : At L X (d + 1) 303 92 [(112, .ref 207), (0, .int x1), (0, .int x2), (0, .int x3), (0, .int x4), (0, .int x5), (0, .int x6), (0, .int x7), (0, .int x8), (0, dV)] [] I o := by
  refine wf_ok z_R_birthdays hcs ?_ ?_ _ _ _ _ _ ⟨rfl, trivial, trivial, trivial, trivial, trivial, trivial, trivial, trivial, trivial, trivial⟩ trivial (unm_refl _ _) ((congrFun (e_s_R_birthdays_92 (L := L) (X := X) F_R_common F_R_greater F_R_isIn K_R_birthdays_116 x1 x2 x3 x4 x5 x6 x7 x8) I).trans h)
  · intro pc ls st I2 h1 h2 h3 h
    rcases mC_ok h with ⟨hb, h⟩ | ⟨_, h⟩
    · have e := Nat.eq_of_beq_eq_true hb
      subst e
      obtain ⟨hst, h⟩ := mN_ok h
      subst hst
      obtain ⟨a4, n4, h⟩ := gI_ok h
      obtain ⟨a8, n8, h⟩ := gI_ok h
      obtain ⟨n9, h⟩ := gD_ok h
      refine at_leaf (ls2 := [(112, .ref 207), (0, .int x1), (0, .int x2), (0, .int x3), (0, .int a4), (0, .int x5), (0, .int x6), (0, .int x7), (0, .int a8), (0, dV)]) h3.1 ⟨Or.inr ⟨_, (h3.2 0 rfl).trans rfl⟩, Or.inr ⟨_, (h3.2 1 rfl).trans rfl⟩, Or.inr ⟨_, (h3.2 2 rfl).trans rfl⟩, Or.inr ⟨_, (h3.2 3 rfl).trans rfl⟩, Or.inr n4, Or.inr ⟨_, (h3.2 5 rfl).trans rfl⟩, Or.inr ⟨_, (h3.2 6 rfl).trans rfl⟩, Or.inr ⟨_, (h3.2 7 rfl).trans rfl⟩, Or.inr n8, Or.inl ⟨rfl, n9⟩, trivial⟩ ?_
      exact s_R_birthdays_116 hcs x1 x2 x3 a4 x5 x6 x7 a8 qb qe160 _ _ _ h hq
    cases h
  · intro v I2 _ h
    cases h
def B_R_birthdays_48 (x1 : Int32) (x2 : Int32) (x3 : Int32) (y : Int32 × Int32 × Int32) : M ((Int32 × Int32 × Int32) ⊕ ((Int32 × Int32))) :=
  (if y.2.2 < x1 then
    bn (F_R_greater (0 : Int32) (x2 - y.2.2)) fun v1 =>
    bn (F_R_common v1 x2) fun v2 =>
    dvI v2 <|
    dvI v2 <|
    K_R_birthdays_92 x1 x2 x3 y.1 y.2.1 y.2.2 (v1 / v2) (x2 / v2)
  else
    rt (.inr (y.1, y.2.1)))
set_option maxRecDepth 4000 in
theorem e_b_R_birthdays_48 (f_R_common : Int32 → Int32 → M Int32) (f_R_greater : Int32 → Int32 → M Int32) (f_R_isIn : Int32 → Int32 → Int32 → M Int32) (k_92 : Int32 → Int32 → Int32 → Int32 → Int32 → Int32 → Int32 → Int32 → M ((Int32 × Int32 × Int32) ⊕ ((Int32 × Int32)))) (x1 : Int32) (x2 : Int32) (x3 : Int32) (y : Int32 × Int32 × Int32) : wf (β := (Int32 × Int32 × Int32) ⊕ ((Int32 × Int32))) L X q_R_birthdays 1 (cs_R_birthdays f_R_common f_R_greater f_R_isIn) [7, 8, 9] [48, 92, 116, 140, 160] (fun pc ls st => mC (Nat.beq pc 92) (mN st <| gI ls 7 fun a7 => gI ls 8 fun a8 => gD ls 9 <| k_92 x1 x2 x3 y.1 y.2.1 y.2.2 a7 a8) (mC (Nat.beq pc 160) (mN st <| gD ls 0 <| gD ls 1 <| gD ls 2 <| gD ls 6 <| gD ls 7 <| gD ls 8 <| gD ls 9 <| rt (.inr (y.1, y.2.1))) (fl))) (fun _ => fl) 103 48 [(112, .ref 207), (0, .int x1), (0, .int x2), (0, .int x3), (0, .int y.1), (0, .int y.2.1), (0, .int y.2.2), (0, dV), (0, dV), (0, dV)] [] = ((if y.2.2 < x1 then
    bn (f_R_greater (0 : Int32) (x2 - y.2.2)) fun v1 =>
    bn (f_R_common v1 x2) fun v2 =>
    dvI v2 <|
    dvI v2 <|
    k_92 x1 x2 x3 y.1 y.2.1 y.2.2 (v1 / v2) (x2 / v2)
  else
    rt (.inr (y.1, y.2.1)))) := rfl
theorem b_R_birthdays_48 {d : Nat} (hcs : AllS L X d (cs_R_birthdays F_R_common F_R_greater F_R_isIn)) (x1 : Int32) (x2 : Int32) (x3 : Int32) {o : Option Value × PH} {Q : ((Int32 × Int32 × Int32) ⊕ ((Int32 × Int32))) → MI → Prop} (qb : ∀ y I, Q (.inl y) I → At L X (d + 1) 303 48 [(112, .ref 207), (0, .int x1), (0, .int x2), (0, .int x3), (0, .int y.1), (0, .int y.2.1), (0, .int y.2.2), (0, dV), (0, dV), (0, dV)] [] I o) (qe160 : ∀ y I, Q (.inr y) I → At L X (d + 1) 303 160 [(0, dV), (0, dV), (0, dV), (0, .int x3), (0, .int y.1), (0, .int y.2), (0, dV), (0, dV), (0, dV), (0, dV)] [] I o) (y : Int32 × Int32 × Int32) (I : MI) (r : (Int32 × Int32 × Int32) ⊕ ((Int32 × Int32))) (I1 : MI) (h : B_R_birthdays_48 x1 x2 x3 y I = some (r, I1)) (hq : Q r I1) : At L X (d + 1) 303 48 [(112, .ref 207), (0, .int x1), (0, .int x2), (0, .int x3), (0, .int y.1), (0, .int y.2.1), (0, .int y.2.2), (0, dV), (0, dV), (0, dV)] [] I o := by
  refine wf_ok z_R_birthdays hcs ?_ ?_ _ _ _ _ _ ⟨rfl, trivial, trivial, trivial, trivial, trivial, trivial, trivial, trivial, trivial, trivial⟩ trivial (unm_refl _ _) ((congrFun (e_b_R_birthdays_48 (L := L) (X := X) F_R_common F_R_greater F_R_isIn K_R_birthdays_92 x1 x2 x3 y) I).trans h)
  · intro pc ls st I2 h1 h2 h3 h
    rcases mC_ok h with ⟨hb, h⟩ | ⟨_, h⟩
    · have e := Nat.eq_of_beq_eq_true hb
      subst e
      obtain ⟨hst, h⟩ := mN_ok h
      subst hst
      obtain ⟨a7, n7, h⟩ := gI_ok h
      obtain ⟨a8, n8, h⟩ := gI_ok h
      obtain ⟨n9, h⟩ := gD_ok h
      refine at_leaf (ls2 := [(112, .ref 207), (0, .int x1), (0, .int x2), (0, .int x3), (0, .int y.1), (0, .int y.2.1), (0, .int y.2.2), (0, .int a7), (0, .int a8), (0, dV)]) h3.1 ⟨Or.inr ⟨_, (h3.2 0 rfl).trans rfl⟩, Or.inr ⟨_, (h3.2 1 rfl).trans rfl⟩, Or.inr ⟨_, (h3.2 2 rfl).trans rfl⟩, Or.inr ⟨_, (h3.2 3 rfl).trans rfl⟩, Or.inr ⟨_, (h3.2 4 rfl).trans rfl⟩, Or.inr ⟨_, (h3.2 5 rfl).trans rfl⟩, Or.inr ⟨_, (h3.2 6 rfl).trans rfl⟩, Or.inr n7, Or.inr n8, Or.inl ⟨rfl, n9⟩, trivial⟩ ?_
      exact s_R_birthdays_92 hcs x1 x2 x3 y.1 y.2.1 y.2.2 a7 a8 qb qe160 _ _ _ h hq
    rcases mC_ok h with ⟨hb, h⟩ | ⟨_, h⟩
    · have e := Nat.eq_of_beq_eq_true hb
      subst e
      obtain ⟨hst, h⟩ := mN_ok h
      subst hst
      obtain ⟨n0, h⟩ := gD_ok h
      obtain ⟨n1, h⟩ := gD_ok h
      obtain ⟨n2, h⟩ := gD_ok h
      obtain ⟨n6, h⟩ := gD_ok h
      obtain ⟨n7, h⟩ := gD_ok h
      obtain ⟨n8, h⟩ := gD_ok h
      obtain ⟨n9, h⟩ := gD_ok h
      refine at_leaf (ls2 := [(0, dV), (0, dV), (0, dV), (0, .int x3), (0, .int y.1), (0, .int y.2.1), (0, dV), (0, dV), (0, dV), (0, dV)]) h3.1 ⟨Or.inl ⟨rfl, n0⟩, Or.inl ⟨rfl, n1⟩, Or.inl ⟨rfl, n2⟩, Or.inr ⟨_, (h3.2 3 rfl).trans rfl⟩, Or.inr ⟨_, (h3.2 4 rfl).trans rfl⟩, Or.inr ⟨_, (h3.2 5 rfl).trans rfl⟩, Or.inl ⟨rfl, n6⟩, Or.inl ⟨rfl, n7⟩, Or.inl ⟨rfl, n8⟩, Or.inl ⟨rfl, n9⟩, trivial⟩ ?_
      cases h; exact qe160 _ _ hq
    cases h
  · intro v I2 _ h
    cases h
def K_R_birthdays_160 (x3 : Int32) (x4 : Int32) (x5 : Int32) : M (Int32) :=
  (if x3 = 0 then
    rt (x5 - x4)
  else
    rt x5)
set_option maxRecDepth 4000 in
theorem e_s_R_birthdays_160 (f_R_common : Int32 → Int32 → M Int32) (f_R_greater : Int32 → Int32 → M Int32) (f_R_isIn : Int32 → Int32 → Int32 → M Int32) (x3 : Int32) (x4 : Int32) (x5 : Int32) : wf (β := Int32) L X q_R_birthdays 1 (cs_R_birthdays f_R_common f_R_greater f_R_isIn) [] [48, 92, 116, 140, 160] (fun _ _ _ => fl) (fun v => match v with | some (_, .int x) => rt x | _ => fl) 103 160 [(0, dV), (0, dV), (0, dV), (0, .int x3), (0, .int x4), (0, .int x5), (0, dV), (0, dV), (0, dV), (0, dV)] [] = ((if x3 = 0 then
    rt (x5 - x4)
  else
    rt x5)) := rfl
theorem s_R_birthdays_160 {d : Nat} (hcs : AllS L X d (cs_R_birthdays F_R_common F_R_greater F_R_isIn)) (x3 : Int32) (x4 : Int32) (x5 : Int32) {o : Option Value × PH} {Q : (Int32) → MI → Prop} (q0 : ∀ v I, Q v I → o = (some (.int v), HH I)) (I : MI) (r : Int32) (I1 : MI) (h : K_R_birthdays_160 x3 x4 x5 I = some (r, I1)) (hq : Q r I1) : At L X (d + 1) 303 160 [(0, dV), (0, dV), (0, dV), (0, .int x3), (0, .int x4), (0, .int x5), (0, dV), (0, dV), (0, dV), (0, dV)] [] I o := by
  refine wf_ok z_R_birthdays hcs ?_ ?_ _ _ _ _ _ ⟨trivial, trivial, trivial, trivial, trivial, trivial, trivial, trivial, trivial, trivial, trivial⟩ trivial (unm_refl _ _) ((congrFun (e_s_R_birthdays_160 (L := L) (X := X) F_R_common F_R_greater F_R_isIn x3 x4 x5) I).trans h)
  · intro pc ls st I2 h1 h2 h3 h
    cases h
  · intro v I2 _ h
    split at h
    · cases h; exact q0 _ _ hq
    · cases h
def K_R_birthdays_48 (x1 : Int32) (x2 : Int32) (x3 : Int32) (x4 : Int32) (x5 : Int32) (x6 : Int32) : M (Int32) :=
  bn (lp (B_R_birthdays_48 x1 x2 x3) FU (x4, x5, x6)) fun e => K_R_birthdays_160 x3 e.1 e.2
theorem s_R_birthdays_48 {d : Nat} (hcs : AllS L X d (cs_R_birthdays F_R_common F_R_greater F_R_isIn)) (x1 : Int32) (x2 : Int32) (x3 : Int32) (x4 : Int32) (x5 : Int32) (x6 : Int32) {o : Option Value × PH} {Q : (Int32) → MI → Prop} (q0 : ∀ v I, Q v I → o = (some (.int v), HH I)) (I : MI) (r : Int32) (I1 : MI) (h : K_R_birthdays_48 x1 x2 x3 x4 x5 x6 I = some (r, I1)) (hq : Q r I1) : At L X (d + 1) 303 48 [(112, .ref 207), (0, .int x1), (0, .int x2), (0, .int x3), (0, .int x4), (0, .int x5), (0, .int x6), (0, dV), (0, dV), (0, dV)] [] I o := by
  unfold K_R_birthdays_48 at h
  obtain ⟨e, I2, h1, h2⟩ := bn_some h
  have w0 := fun w => at_lp (body := B_R_birthdays_48 x1 x2 x3) (P := (fun (y : Int32 × Int32 × Int32) I => At L X (d + 1) 303 48 [(112, .ref 207), (0, .int x1), (0, .int x2), (0, .int x3), (0, .int y.1), (0, .int y.2.1), (0, .int y.2.2), (0, dV), (0, dV), (0, dV)] [] I o)) (Q := (fun (e : (Int32 × Int32)) I => (K_R_birthdays_160 x3 e.1 e.2) I = some (r, I1))) w FU (x4, x5, x6) I e I2 h1 h2
  refine w0 ?_
  intro y I r2 I3 h hq2
  exact b_R_birthdays_48 hcs x1 x2 x3 (Q := SQ (fun (y : Int32 × Int32 × Int32) I => At L X (d + 1) 303 48 [(112, .ref 207), (0, .int x1), (0, .int x2), (0, .int x3), (0, .int y.1), (0, .int y.2.1), (0, .int y.2.2), (0, dV), (0, dV), (0, dV)] [] I o) (fun (e : (Int32 × Int32)) I => (K_R_birthdays_160 x3 e.1 e.2) I = some (r, I1))) (fun _ _ w => w) (fun y I w => s_R_birthdays_160 hcs x3 y.1 y.2 q0 _ _ _ w hq) y I r2 I3 h hq2
def F_R_birthdays (x1 : Int32) (x2 : Int32) (x3 : Int32) : M (Int32) :=
  bn (wr 207 0 (0 : Int32)) fun _ =>
  bn (F_R_isIn x1 (1 : Int32) (8 : Int32)) fun v1 =>
  (if v1 = 0 then
    rt (-1 : Int32)
  else
    bn (F_R_isIn x2 (1 : Int32) (20 : Int32)) fun v2 =>
    (if v2 = 0 then
      rt (-1 : Int32)
    else
      bn (F_R_isIn x3 (0 : Int32) (1 : Int32)) fun v3 =>
      (if v3 = 0 then
        rt (-1 : Int32)
      else
        K_R_birthdays_48 x1 x2 x3 (1 : Int32) (1 : Int32) (0 : Int32))))
set_option maxRecDepth 4000 in
theorem e_s_R_birthdays_0 (f_R_common : Int32 → Int32 → M Int32) (f_R_greater : Int32 → Int32 → M Int32) (f_R_isIn : Int32 → Int32 → Int32 → M Int32) (k_48 : Int32 → Int32 → Int32 → Int32 → Int32 → Int32 → M (Int32)) (x1 : Int32) (x2 : Int32) (x3 : Int32) : wf (β := Int32) L X q_R_birthdays 1 (cs_R_birthdays f_R_common f_R_greater f_R_isIn) [4, 5, 6] [48, 92, 116, 140, 160] (fun pc ls st => mC (Nat.beq pc 48) (mN st <| gI ls 4 fun a4 => gI ls 5 fun a5 => gI ls 6 fun a6 => gD ls 7 <| gD ls 8 <| gD ls 9 <| k_48 x1 x2 x3 a4 a5 a6) (fl)) (fun v => match v with | some (_, .int x) => rt x | _ => fl) 103 0 [(112, .ref 207), (0, .int x1), (0, .int x2), (0, .int x3), (0, dV), (0, dV), (0, dV), (0, dV), (0, dV), (0, dV)] [] = (bn (wr 207 0 (0 : Int32)) fun _ =>
  bn (f_R_isIn x1 (1 : Int32) (8 : Int32)) fun v1 =>
  (if v1 = 0 then
    rt (-1 : Int32)
  else
    bn (f_R_isIn x2 (1 : Int32) (20 : Int32)) fun v2 =>
    (if v2 = 0 then
      rt (-1 : Int32)
    else
      bn (f_R_isIn x3 (0 : Int32) (1 : Int32)) fun v3 =>
      (if v3 = 0 then
        rt (-1 : Int32)
      else
        k_48 x1 x2 x3 (1 : Int32) (1 : Int32) (0 : Int32))))) := rfl
theorem s_R_birthdays_0 {d : Nat} (hcs : AllS L X d (cs_R_birthdays F_R_common F_R_greater F_R_isIn)) (x1 : Int32) (x2 : Int32) (x3 : Int32) {o : Option Value × PH} {Q : (Int32) → MI → Prop} (q0 : ∀ v I, Q v I → o = (some (.int v), HH I)) (I : MI) (r : Int32) (I1 : MI) (h : F_R_birthdays x1 x2 x3 I = some (r, I1)) (hq : Q r I1) : At L X (d + 1) 303 0 [(112, .ref 207), (0, .int x1), (0, .int x2), (0, .int x3), (0, dV), (0, dV), (0, dV), (0, dV), (0, dV), (0, dV)] [] I o := by
  refine wf_ok z_R_birthdays hcs ?_ ?_ _ _ _ _ _ ⟨rfl, trivial, trivial, trivial, trivial, trivial, trivial, trivial, trivial, trivial, trivial⟩ trivial (unm_refl _ _) ((congrFun (e_s_R_birthdays_0 (L := L) (X := X) F_R_common F_R_greater F_R_isIn K_R_birthdays_48 x1 x2 x3) I).trans h)
  · intro pc ls st I2 h1 h2 h3 h
    rcases mC_ok h with ⟨hb, h⟩ | ⟨_, h⟩
    · have e := Nat.eq_of_beq_eq_true hb
      subst e
      obtain ⟨hst, h⟩ := mN_ok h
      subst hst
      obtain ⟨a4, n4, h⟩ := gI_ok h
      obtain ⟨a5, n5, h⟩ := gI_ok h
      obtain ⟨a6, n6, h⟩ := gI_ok h
      obtain ⟨n7, h⟩ := gD_ok h
      obtain ⟨n8, h⟩ := gD_ok h
      obtain ⟨n9, h⟩ := gD_ok h
      refine at_leaf (ls2 := [(112, .ref 207), (0, .int x1), (0, .int x2), (0, .int x3), (0, .int a4), (0, .int a5), (0, .int a6), (0, dV), (0, dV), (0, dV)]) h3.1 ⟨Or.inr ⟨_, (h3.2 0 rfl).trans rfl⟩, Or.inr ⟨_, (h3.2 1 rfl).trans rfl⟩, Or.inr ⟨_, (h3.2 2 rfl).trans rfl⟩, Or.inr ⟨_, (h3.2 3 rfl).trans rfl⟩, Or.inr n4, Or.inr n5, Or.inr n6, Or.inl ⟨rfl, n7⟩, Or.inl ⟨rfl, n8⟩, Or.inl ⟨rfl, n9⟩, trivial⟩ ?_
      exact s_R_birthdays_48 hcs x1 x2 x3 a4 a5 a6 q0 _ _ _ h hq
    cases h
  · intro v I2 _ h
    split at h
    · cases h; exact q0 _ _ hq
    · cases h
theorem w_R_birthdays {d : Nat} (hcs : AllS L X d (cs_R_birthdays F_R_common F_R_greater F_R_isIn)) : Snd L X (d + 1) 303 4 (W_R_birthdays F_R_birthdays) := by
  refine ⟨_, z_R_birthdays, rfl, fun β args k I r hty hlen h => ?_⟩
  unfold W_R_birthdays at h
  split at h
  · rename_i t0 a0 u1 a1 u2 a2 u3 a3
    obtain ⟨hb0, h⟩ := mB_ok h
    have e0 := Nat.eq_of_beq_eq_true hb0
    have g0 : okB 112 a0 = true := e0 ▸ hty.1
    have e20 := one_112 g0
    subst e20
    obtain ⟨v, I1, h1, h2⟩ := bn_some h
    refine ⟨gf_obj (c := 12) (by decide) g0, rfl, some (0, .int v), I1, trivial, ?_, h2⟩
    exact s_R_birthdays_0 hcs a1 a2 a3  (Q := fun w I => w = v ∧ I = I1) (fun w I q => by obtain ⟨rfl, rfl⟩ := q; rfl) I v I1 h1 ⟨rfl, rfl⟩
  · cases h
theorem S_R_birthdays {d : Nat} (hd : 2 ≤ d) : Snd L X d 303 4 (W_R_birthdays F_R_birthdays) := by
  obtain ⟨e, rfl⟩ : ∃ e, d = e + 1 := ⟨d - 1, by omega⟩
  exact w_R_birthdays ⟨S_R_common (by omega), S_R_greater (by omega), S_R_isIn (by omega), trivial⟩
set_option maxRecDepth 100000 in
theorem z_R_book : pT[276]? = some (q_R_book, 3, 3, 1, 12) := rfl
def W_R_book (F : Int32 → Int32 → M Int32) : CSem := fun _ args k => match args with
  | [(t0, .ref a0), (_, .int a1), (_, .int a2)] => mB (Nat.beq t0 112) <| bn (F a1 a2) fun v => k (some (0, .int v))
  | _ => fl
def cs_R_book (f_R_isIn : Int32 → Int32 → Int32 → M Int32) : List (Nat × Nat × CSem) := [(195, 4, W_R_isIn f_R_isIn)]
def F_R_book (x1 : Int32) (x2 : Int32) : M (Int32) :=
  bn (wr 207 0 (0 : Int32)) fun _ =>
  bn (ld 95 208 (3 : Int32)) fun v1 =>
  bn (F_R_isIn x1 (0 : Int32) (v1 - (1 : Int32))) fun v2 =>
  (if v2 = 0 then
    rt (-1 : Int32)
  else
    bn (F_R_isIn x2 (0 : Int32) (4 : Int32)) fun v3 =>
    (if v3 = 0 then
      rt (-1 : Int32)
    else
      bn (ld 750 215 (((5 : Int32) * x1) + x2)) fun v4 =>
      rt v4))
set_option maxRecDepth 4000 in
theorem e_s_R_book_0 (f_R_isIn : Int32 → Int32 → Int32 → M Int32) (x1 : Int32) (x2 : Int32) : wf (β := Int32) L X q_R_book 1 (cs_R_book f_R_isIn) [] [] (fun _ _ _ => fl) (fun v => match v with | some (_, .int x) => rt x | _ => fl) 36 0 [(112, .ref 207), (0, .int x1), (0, .int x2)] [] = (bn (wr 207 0 (0 : Int32)) fun _ =>
  bn (ld 95 208 (3 : Int32)) fun v1 =>
  bn (f_R_isIn x1 (0 : Int32) (v1 - (1 : Int32))) fun v2 =>
  (if v2 = 0 then
    rt (-1 : Int32)
  else
    bn (f_R_isIn x2 (0 : Int32) (4 : Int32)) fun v3 =>
    (if v3 = 0 then
      rt (-1 : Int32)
    else
      bn (ld 750 215 (((5 : Int32) * x1) + x2)) fun v4 =>
      rt v4))) := rfl
theorem s_R_book_0 {d : Nat} (hcs : AllS L X d (cs_R_book F_R_isIn)) (x1 : Int32) (x2 : Int32) {o : Option Value × PH} {Q : (Int32) → MI → Prop} (q0 : ∀ v I, Q v I → o = (some (.int v), HH I)) (I : MI) (r : Int32) (I1 : MI) (h : F_R_book x1 x2 I = some (r, I1)) (hq : Q r I1) : At L X (d + 1) 276 0 [(112, .ref 207), (0, .int x1), (0, .int x2)] [] I o := by
  refine wf_ok z_R_book hcs ?_ ?_ _ _ _ _ _ ⟨rfl, trivial, trivial, trivial⟩ trivial (unm_refl _ _) ((congrFun (e_s_R_book_0 (L := L) (X := X) F_R_isIn x1 x2) I).trans h)
  · intro pc ls st I2 h1 h2 h3 h
    cases h
  · intro v I2 _ h
    split at h
    · cases h; exact q0 _ _ hq
    · cases h
theorem w_R_book {d : Nat} (hcs : AllS L X d (cs_R_book F_R_isIn)) : Snd L X (d + 1) 276 3 (W_R_book F_R_book) := by
  refine ⟨_, z_R_book, rfl, fun β args k I r hty hlen h => ?_⟩
  unfold W_R_book at h
  split at h
  · rename_i t0 a0 u1 a1 u2 a2
    obtain ⟨hb0, h⟩ := mB_ok h
    have e0 := Nat.eq_of_beq_eq_true hb0
    have g0 : okB 112 a0 = true := e0 ▸ hty.1
    have e20 := one_112 g0
    subst e20
    obtain ⟨v, I1, h1, h2⟩ := bn_some h
    refine ⟨gf_obj (c := 12) (by decide) g0, rfl, some (0, .int v), I1, trivial, ?_, h2⟩
    exact s_R_book_0 hcs a1 a2  (Q := fun w I => w = v ∧ I = I1) (fun w I q => by obtain ⟨rfl, rfl⟩ := q; rfl) I v I1 h1 ⟨rfl, rfl⟩
  · cases h
theorem S_R_book {d : Nat} (hd : 2 ≤ d) : Snd L X d 276 3 (W_R_book F_R_book) := by
  obtain ⟨e, rfl⟩ : ∃ e, d = e + 1 := ⟨d - 1, by omega⟩
  exact w_R_book ⟨S_R_isIn (by omega), trivial⟩
end
