/-! methods (written by wip/tools/gen_f.py) -/
section
variable {L : Nat} {X : Nat → Int32}
set_option maxRecDepth 100000 in
theorem z_World_become : pT[28]? = some (q_World_become, 2, 2, 0, 10) := rfl
def W_World_become (F : Nat → Nat → M Unit) : CSem := fun _ args k => match args with
  | [(t0, .ref a0), (t1, .ref a1)] => mB (Nat.beq t0 110) <| mB (Nat.beq t1 110) <| bn (F a0 a1) fun _ => k none
  | _ => fl
def cs_World_become : List (Nat × Nat × CSem) := []
def F_World_become (r0 : Nat) (r1 : Nat) : M (Unit) :=
  bn (rd r1 0) fun v1 =>
  bn (wr r0 0 v1) fun _ =>
  bn (rd r1 1) fun v2 =>
  bn (wr r0 1 v2) fun _ =>
  bn (rd r1 2) fun v3 =>
  bn (wr r0 2 v3) fun _ =>
  bn (rd r1 3) fun v4 =>
  bn (wr r0 3 v4) fun _ =>
  bn (rd r1 4) fun v5 =>
  bn (wr r0 4 v5) fun _ =>
  bn (rd r1 5) fun v6 =>
  bn (wr r0 5 v6) fun _ =>
  bn (rd r1 6) fun v7 =>
  bn (wr r0 6 v7) fun _ =>
  bn (rd r1 7) fun v8 =>
  bn (wr r0 7 v8) fun _ =>
  bn (rd r1 8) fun v9 =>
  bn (wr r0 8 v9) fun _ =>
  bn (cpM 10 10 (r1 + 1) (0 : Int32) (r0 + 1) (0 : Int32) (10 : Int32)) fun _ =>
  bn (cpM 6 6 (r1 + 2) (0 : Int32) (r0 + 2) (0 : Int32) (6 : Int32)) fun _ =>
  bn (cpM 6 6 (r1 + 3) (0 : Int32) (r0 + 3) (0 : Int32) (6 : Int32)) fun _ =>
  bn (cpM 18 18 (r1 + 4) (0 : Int32) (r0 + 4) (0 : Int32) (18 : Int32)) fun _ =>
  bn (cpM 18 18 (r1 + 5) (0 : Int32) (r0 + 5) (0 : Int32) (18 : Int32)) fun _ =>
  bn (cpM 18 18 (r1 + 6) (0 : Int32) (r0 + 6) (0 : Int32) (18 : Int32)) fun _ =>
  bn (cpM 18 18 (r1 + 7) (0 : Int32) (r0 + 7) (0 : Int32) (18 : Int32)) fun _ =>
  bn (cpM 18 18 (r1 + 8) (0 : Int32) (r0 + 8) (0 : Int32) (18 : Int32)) fun _ =>
  bn (cpM 18 18 (r1 + 9) (0 : Int32) (r0 + 9) (0 : Int32) (18 : Int32)) fun _ =>
  bn (cpM 18 18 (r1 + 10) (0 : Int32) (r0 + 10) (0 : Int32) (18 : Int32)) fun _ =>
  rt ()
set_option maxRecDepth 4000 in
theorem e_s_World_become_0 (r0 : Nat) (r1 : Nat) : wf (β := Unit) L X q_World_become 0 cs_World_become [] [] (fun _ _ _ => fl) (fun v => match v with | none => rt () | _ => fl) 122 0 [(110, .ref r0), (110, .ref r1)] [] = (bn (rd r1 0) fun v1 =>
  bn (wr r0 0 v1) fun _ =>
  bn (rd r1 1) fun v2 =>
  bn (wr r0 1 v2) fun _ =>
  bn (rd r1 2) fun v3 =>
  bn (wr r0 2 v3) fun _ =>
  bn (rd r1 3) fun v4 =>
  bn (wr r0 3 v4) fun _ =>
  bn (rd r1 4) fun v5 =>
  bn (wr r0 4 v5) fun _ =>
  bn (rd r1 5) fun v6 =>
  bn (wr r0 5 v6) fun _ =>
  bn (rd r1 6) fun v7 =>
  bn (wr r0 6 v7) fun _ =>
  bn (rd r1 7) fun v8 =>
  bn (wr r0 7 v8) fun _ =>
  bn (rd r1 8) fun v9 =>
  bn (wr r0 8 v9) fun _ =>
  bn (cpM 10 10 (r1 + 1) (0 : Int32) (r0 + 1) (0 : Int32) (10 : Int32)) fun _ =>
  bn (cpM 6 6 (r1 + 2) (0 : Int32) (r0 + 2) (0 : Int32) (6 : Int32)) fun _ =>
  bn (cpM 6 6 (r1 + 3) (0 : Int32) (r0 + 3) (0 : Int32) (6 : Int32)) fun _ =>
  bn (cpM 18 18 (r1 + 4) (0 : Int32) (r0 + 4) (0 : Int32) (18 : Int32)) fun _ =>
  bn (cpM 18 18 (r1 + 5) (0 : Int32) (r0 + 5) (0 : Int32) (18 : Int32)) fun _ =>
  bn (cpM 18 18 (r1 + 6) (0 : Int32) (r0 + 6) (0 : Int32) (18 : Int32)) fun _ =>
  bn (cpM 18 18 (r1 + 7) (0 : Int32) (r0 + 7) (0 : Int32) (18 : Int32)) fun _ =>
  bn (cpM 18 18 (r1 + 8) (0 : Int32) (r0 + 8) (0 : Int32) (18 : Int32)) fun _ =>
  bn (cpM 18 18 (r1 + 9) (0 : Int32) (r0 + 9) (0 : Int32) (18 : Int32)) fun _ =>
  bn (cpM 18 18 (r1 + 10) (0 : Int32) (r0 + 10) (0 : Int32) (18 : Int32)) fun _ =>
  rt ()) := rfl
theorem s_World_become_0 {d : Nat} (hcs : AllS L X d cs_World_become) (r0 : Nat) (r1 : Nat) (t0 : okB 110 r0 = true) (t1 : okB 110 r1 = true) {o : Option Value × PH} {Q : (Unit) → MI → Prop} (q0 : ∀ v I, Q v I → o = (none, HH I)) (I : MI) (r : Unit) (I1 : MI) (h : F_World_become r0 r1 I = some (r, I1)) (hq : Q r I1) : At L X (d + 1) 28 0 [(110, .ref r0), (110, .ref r1)] [] I o := by
  refine wf_ok z_World_become hcs ?_ ?_ _ _ _ _ _ ⟨t0, t1, trivial⟩ trivial (unm_refl _ _) ((congrFun (e_s_World_become_0 (L := L) (X := X) r0 r1) I).trans h)
  · intro pc ls st I2 h1 h2 h3 h
    cases h
  · intro v I2 _ h
    split at h
    · cases h; exact q0 _ _ hq
    · cases h
theorem w_World_become {d : Nat} (hcs : AllS L X d cs_World_become) : Snd L X (d + 1) 28 2 (W_World_become F_World_become) := by
  refine ⟨_, z_World_become, rfl, fun β args k I r hty hlen h => ?_⟩
  unfold W_World_become at h
  split at h
  · rename_i t0 a0 t1 a1
    obtain ⟨hb0, h⟩ := mB_ok h
    have e0 := Nat.eq_of_beq_eq_true hb0
    have g0 : okB 110 a0 = true := e0 ▸ hty.1
    obtain ⟨hb1, h⟩ := mB_ok h
    have e1 := Nat.eq_of_beq_eq_true hb1
    have g1 : okB 110 a1 = true := e1 ▸ hty.2.1
    obtain ⟨v, I1, h1, h2⟩ := bn_some h
    refine ⟨gf_obj (c := 10) (by decide) g0, rfl, none, I1, trivial, ?_, h2⟩
    exact s_World_become_0 hcs a0 a1 g0 g1 (Q := fun w I => w = v ∧ I = I1) (fun w I q => by obtain ⟨rfl, rfl⟩ := q; rfl) I v I1 h1 ⟨rfl, rfl⟩
  · cases h
theorem S_World_become {d : Nat} (hd : 1 ≤ d) : Snd L X d 28 2 (W_World_become F_World_become) := by
  obtain ⟨e, rfl⟩ : ∃ e, d = e + 1 := ⟨d - 1, by omega⟩
  exact w_World_become trivial
set_option maxRecDepth 100000 in
theorem z_A_keepPast : pT[27]? = some (q_A_keepPast, 1, 1, 0, 11) := rfl
def W_A_keepPast (F : M Unit) : CSem := fun _ args k => match args with
  | [(t0, .ref a0)] => mB (Nat.beq t0 111) <| bn (F) fun _ => k none
  | _ => fl
def cs_A_keepPast (f_World_become : Nat → Nat → M Unit) : List (Nat × Nat × CSem) := [(28, 2, W_World_become f_World_become)]
def F_A_keepPast : M (Unit) :=
  bn (rd 0 8) fun v1 =>
  bn (gd (inR v1 6)) fun _ =>
  bn (F_World_become (124 + 11 * (v1).toNatClampNeg) 2) fun _ =>
  bn (rd 0 8) fun v2 =>
  dvI (6 : Int32) <|
  bn (wr 0 8 ((v2 + (1 : Int32)) - (v2 + (1 : Int32)) / (6 : Int32) * (6 : Int32))) fun _ =>
  bn (rd 0 9) fun v3 =>
  bn (wr 0 9 (if (v3 + (1 : Int32)) < (6 : Int32) then (v3 + (1 : Int32)) else (6 : Int32))) fun _ =>
  rt ()
set_option maxRecDepth 4000 in
theorem e_s_A_keepPast_0 (f_World_become : Nat → Nat → M Unit) : wf (β := Unit) L X q_A_keepPast 0 (cs_A_keepPast f_World_become) [] [] (fun _ _ _ => fl) (fun v => match v with | none => rt () | _ => fl) 31 0 [(111, .ref 0)] [] = (bn (rd 0 8) fun v1 =>
  bn (gd (inR v1 6)) fun _ =>
  bn (f_World_become (124 + 11 * (v1).toNatClampNeg) 2) fun _ =>
  bn (rd 0 8) fun v2 =>
  dvI (6 : Int32) <|
  bn (wr 0 8 ((v2 + (1 : Int32)) - (v2 + (1 : Int32)) / (6 : Int32) * (6 : Int32))) fun _ =>
  bn (rd 0 9) fun v3 =>
  bn (wr 0 9 (if (v3 + (1 : Int32)) < (6 : Int32) then (v3 + (1 : Int32)) else (6 : Int32))) fun _ =>
  rt ()) := rfl
theorem s_A_keepPast_0 {d : Nat} (hcs : AllS L X d (cs_A_keepPast F_World_become)) {o : Option Value × PH} {Q : (Unit) → MI → Prop} (q0 : ∀ v I, Q v I → o = (none, HH I)) (I : MI) (r : Unit) (I1 : MI) (h : F_A_keepPast I = some (r, I1)) (hq : Q r I1) : At L X (d + 1) 27 0 [(111, .ref 0)] [] I o := by
  refine wf_ok z_A_keepPast hcs ?_ ?_ _ _ _ _ _ ⟨rfl, trivial⟩ trivial (unm_refl _ _) ((congrFun (e_s_A_keepPast_0 (L := L) (X := X) F_World_become) I).trans h)
  · intro pc ls st I2 h1 h2 h3 h
    cases h
  · intro v I2 _ h
    split at h
    · cases h; exact q0 _ _ hq
    · cases h
theorem w_A_keepPast {d : Nat} (hcs : AllS L X d (cs_A_keepPast F_World_become)) : Snd L X (d + 1) 27 1 (W_A_keepPast F_A_keepPast) := by
  refine ⟨_, z_A_keepPast, rfl, fun β args k I r hty hlen h => ?_⟩
  unfold W_A_keepPast at h
  split at h
  · rename_i t0 a0
    obtain ⟨hb0, h⟩ := mB_ok h
    have e0 := Nat.eq_of_beq_eq_true hb0
    have g0 : okB 111 a0 = true := e0 ▸ hty.1
    have e20 := one_111 g0
    subst e20
    obtain ⟨v, I1, h1, h2⟩ := bn_some h
    refine ⟨gf_obj (c := 11) (by decide) g0, rfl, none, I1, trivial, ?_, h2⟩
    exact s_A_keepPast_0 hcs   (Q := fun w I => w = v ∧ I = I1) (fun w I q => by obtain ⟨rfl, rfl⟩ := q; rfl) I v I1 h1 ⟨rfl, rfl⟩
  · cases h
theorem S_A_keepPast {d : Nat} (hd : 2 ≤ d) : Snd L X d 27 1 (W_A_keepPast F_A_keepPast) := by
  obtain ⟨e, rfl⟩ : ∃ e, d = e + 1 := ⟨d - 1, by omega⟩
  exact w_A_keepPast ⟨S_World_become (by omega), trivial⟩
set_option maxRecDepth 100000 in
theorem z_Book_write : pT[32]? = some (q_Book_write, 5, 6, 0, 0) := rfl
def W_Book_write (F : Nat → Nat → Int32 → Int32 → Int32 → M Unit) : CSem := fun _ args k => match args with
  | [(t0, .ref a0), (t1, .ref a1), (_, .int a2), (_, .int a3), (_, .int a4)] => mB (Nat.beq t0 100) <| mB (Nat.beq t1 110) <| bn (F a0 a1 a2 a3 a4) fun _ => k none
  | _ => fl
def cs_Book_write : List (Nat × Nat × CSem) := []
def F_Book_write (r0 : Nat) (r1 : Nat) (x2 : Int32) (x3 : Int32) (x4 : Int32) : M (Unit) :=
  bn (rd r1 6) fun v1 =>
  (if v1 < 0 then
    rt ()
  else
    bn (rd r1 6) fun v2 =>
    (if v2 < (150 : Int32) then
      bn (rd r1 6) fun v3 =>
      bn (rd r1 5) fun v4 =>
      bn (sr 750 (r0 + 1) (v3 * (5 : Int32)) v4) fun _ =>
      bn (rd r1 4) fun v5 =>
      bn (sr 750 (r0 + 1) ((v3 * (5 : Int32)) + (1 : Int32)) v5) fun _ =>
      bn (sr 750 (r0 + 1) ((v3 * (5 : Int32)) + (2 : Int32)) x2) fun _ =>
      bn (sr 750 (r0 + 1) ((v3 * (5 : Int32)) + (3 : Int32)) x3) fun _ =>
      bn (sr 750 (r0 + 1) ((v3 * (5 : Int32)) + (4 : Int32)) x4) fun _ =>
      bn (rd r1 6) fun v6 =>
      bn (wr r1 6 (v6 + (1 : Int32))) fun _ =>
      rt ()
    else
      rt ()))
set_option maxRecDepth 4000 in
theorem e_s_Book_write_0 (r0 : Nat) (r1 : Nat) (x2 : Int32) (x3 : Int32) (x4 : Int32) : wf (β := Unit) L X q_Book_write 0 cs_Book_write [5] [] (fun _ _ _ => fl) (fun v => match v with | none => rt () | _ => fl) 60 0 [(100, .ref r0), (110, .ref r1), (0, .int x2), (0, .int x3), (0, .int x4), (0, dV)] [] = (bn (rd r1 6) fun v1 =>
  (if v1 < 0 then
    rt ()
  else
    bn (rd r1 6) fun v2 =>
    (if v2 < (150 : Int32) then
      bn (rd r1 6) fun v3 =>
      bn (rd r1 5) fun v4 =>
      bn (sr 750 (r0 + 1) (v3 * (5 : Int32)) v4) fun _ =>
      bn (rd r1 4) fun v5 =>
      bn (sr 750 (r0 + 1) ((v3 * (5 : Int32)) + (1 : Int32)) v5) fun _ =>
      bn (sr 750 (r0 + 1) ((v3 * (5 : Int32)) + (2 : Int32)) x2) fun _ =>
      bn (sr 750 (r0 + 1) ((v3 * (5 : Int32)) + (3 : Int32)) x3) fun _ =>
      bn (sr 750 (r0 + 1) ((v3 * (5 : Int32)) + (4 : Int32)) x4) fun _ =>
      bn (rd r1 6) fun v6 =>
      bn (wr r1 6 (v6 + (1 : Int32))) fun _ =>
      rt ()
    else
      rt ()))) := rfl
theorem s_Book_write_0 {d : Nat} (hcs : AllS L X d cs_Book_write) (r0 : Nat) (r1 : Nat) (x2 : Int32) (x3 : Int32) (x4 : Int32) (t0 : okB 100 r0 = true) (t1 : okB 110 r1 = true) {o : Option Value × PH} {Q : (Unit) → MI → Prop} (q0 : ∀ v I, Q v I → o = (none, HH I)) (I : MI) (r : Unit) (I1 : MI) (h : F_Book_write r0 r1 x2 x3 x4 I = some (r, I1)) (hq : Q r I1) : At L X (d + 1) 32 0 [(100, .ref r0), (110, .ref r1), (0, .int x2), (0, .int x3), (0, .int x4), (0, dV)] [] I o := by
  refine wf_ok z_Book_write hcs ?_ ?_ _ _ _ _ _ ⟨t0, t1, trivial, trivial, trivial, trivial, trivial⟩ trivial (unm_refl _ _) ((congrFun (e_s_Book_write_0 (L := L) (X := X) r0 r1 x2 x3 x4) I).trans h)
  · intro pc ls st I2 h1 h2 h3 h
    cases h
  · intro v I2 _ h
    split at h
    · cases h; exact q0 _ _ hq
    · cases h
theorem w_Book_write {d : Nat} (hcs : AllS L X d cs_Book_write) : Snd L X (d + 1) 32 5 (W_Book_write F_Book_write) := by
  refine ⟨_, z_Book_write, rfl, fun β args k I r hty hlen h => ?_⟩
  unfold W_Book_write at h
  split at h
  · rename_i t0 a0 t1 a1 u2 a2 u3 a3 u4 a4
    obtain ⟨hb0, h⟩ := mB_ok h
    have e0 := Nat.eq_of_beq_eq_true hb0
    have g0 : okB 100 a0 = true := e0 ▸ hty.1
    obtain ⟨hb1, h⟩ := mB_ok h
    have e1 := Nat.eq_of_beq_eq_true hb1
    have g1 : okB 110 a1 = true := e1 ▸ hty.2.1
    obtain ⟨v, I1, h1, h2⟩ := bn_some h
    refine ⟨gf_obj (c := 0) (by decide) g0, rfl, none, I1, trivial, ?_, h2⟩
    exact s_Book_write_0 hcs a0 a1 a2 a3 a4 g0 g1 (Q := fun w I => w = v ∧ I = I1) (fun w I q => by obtain ⟨rfl, rfl⟩ := q; rfl) I v I1 h1 ⟨rfl, rfl⟩
  · cases h
theorem S_Book_write {d : Nat} (hd : 1 ≤ d) : Snd L X d 32 5 (W_Book_write F_Book_write) := by
  obtain ⟨e, rfl⟩ : ∃ e, d = e + 1 := ⟨d - 1, by omega⟩
  exact w_Book_write trivial
set_option maxRecDepth 100000 in
theorem z_World_isPerson : pT[21]? = some (q_World_isPerson, 2, 2, 2, 10) := rfl
def W_World_isPerson (F : Nat → Int32 → M Int32) : CSem := fun _ args k => match args with
  | [(t0, .ref a0), (_, .int a1)] => mB (Nat.beq t0 110) <| bn (F a0 a1) fun v => k (some (0, .int v))
  | _ => fl
def cs_World_isPerson : List (Nat × Nat × CSem) := []
def F_World_isPerson (r0 : Nat) (x1 : Int32) : M (Int32) :=
  (if x1 < 0 then
    bn (gdZ (0 : Int32)) fun _ => rt (0 : Int32)
  else
    bn (rd r0 7) fun v1 =>
    (if x1 < v1 then
      bn (gdZ (1 : Int32)) fun _ => rt (1 : Int32)
    else
      bn (gdZ (0 : Int32)) fun _ => rt (0 : Int32)))
set_option maxRecDepth 4000 in
theorem e_s_World_isPerson_0 (r0 : Nat) (x1 : Int32) : wf (β := Int32) L X q_World_isPerson 2 cs_World_isPerson [] [] (fun _ _ _ => fl) (fun v => match v with | some (_, .int x) => rt x | _ => fl) 15 0 [(110, .ref r0), (0, .int x1)] [] = ((if x1 < 0 then
    bn (gdZ (0 : Int32)) fun _ => rt (0 : Int32)
  else
    bn (rd r0 7) fun v1 =>
    (if x1 < v1 then
      bn (gdZ (1 : Int32)) fun _ => rt (1 : Int32)
    else
      bn (gdZ (0 : Int32)) fun _ => rt (0 : Int32)))) := rfl
theorem s_World_isPerson_0 {d : Nat} (hcs : AllS L X d cs_World_isPerson) (r0 : Nat) (x1 : Int32) (t0 : okB 110 r0 = true) {o : Option Value × PH} {Q : (Int32) → MI → Prop} (q0 : ∀ v I, Q v I → o = (some (.int v), HH I)) (I : MI) (r : Int32) (I1 : MI) (h : F_World_isPerson r0 x1 I = some (r, I1)) (hq : Q r I1) : At L X (d + 1) 21 0 [(110, .ref r0), (0, .int x1)] [] I o := by
  refine wf_ok z_World_isPerson hcs ?_ ?_ _ _ _ _ _ ⟨t0, trivial, trivial⟩ trivial (unm_refl _ _) ((congrFun (e_s_World_isPerson_0 (L := L) (X := X) r0 x1) I).trans h)
  · intro pc ls st I2 h1 h2 h3 h
    cases h
  · intro v I2 _ h
    split at h
    · cases h; exact q0 _ _ hq
    · cases h
theorem w_World_isPerson {d : Nat} (hcs : AllS L X d cs_World_isPerson) : Snd L X (d + 1) 21 2 (W_World_isPerson F_World_isPerson) := by
  refine ⟨_, z_World_isPerson, rfl, fun β args k I r hty hlen h => ?_⟩
  unfold W_World_isPerson at h
  split at h
  · rename_i t0 a0 u1 a1
    obtain ⟨hb0, h⟩ := mB_ok h
    have e0 := Nat.eq_of_beq_eq_true hb0
    have g0 : okB 110 a0 = true := e0 ▸ hty.1
    obtain ⟨v, I1, h1, h2⟩ := bn_some h
    refine ⟨gf_obj (c := 10) (by decide) g0, rfl, some (0, .int v), I1, trivial, ?_, h2⟩
    exact s_World_isPerson_0 hcs a0 a1 g0 (Q := fun w I => w = v ∧ I = I1) (fun w I q => by obtain ⟨rfl, rfl⟩ := q; rfl) I v I1 h1 ⟨rfl, rfl⟩
  · cases h
theorem S_World_isPerson {d : Nat} (hd : 1 ≤ d) : Snd L X d 21 2 (W_World_isPerson F_World_isPerson) := by
  obtain ⟨e, rfl⟩ : ∃ e, d = e + 1 := ⟨d - 1, by omega⟩
  exact w_World_isPerson trivial
set_option maxRecDepth 100000 in
theorem z_A_pay : pT[31]? = some (q_A_pay, 2, 4, 2, 11) := rfl
def W_A_pay (F : Int32 → M Int32) : CSem := fun _ args k => match args with
  | [(t0, .ref a0), (_, .int a1)] => mB (Nat.beq t0 111) <| bn (F a1) fun v => k (some (0, .int v))
  | _ => fl
def cs_A_pay (f_A_keepPast : M Unit) (f_Book_write : Nat → Nat → Int32 → Int32 → Int32 → M Unit) (f_World_isPerson : Nat → Int32 → M Int32) : List (Nat × Nat × CSem) := [(27, 1, W_A_keepPast f_A_keepPast), (32, 5, W_Book_write f_Book_write), (21, 2, W_World_isPerson f_World_isPerson)]
def F_A_pay (x1 : Int32) : M (Int32) :=
  bn (F_World_isPerson 2 x1) fun v1 =>
  (if v1 = 0 then
    bn (gdZ (0 : Int32)) fun _ => rt (0 : Int32)
  else
    bn (rd 2 1) fun v2 =>
    bn (ld 6 5 x1) fun v3 =>
    (if 0 < (if v3 < v2 then v3 else v2) then
      bn (F_A_keepPast) fun _ =>
      bn (rd 2 1) fun v4 =>
      bn (wr 2 1 (v4 - (if v3 < v2 then v3 else v2))) fun _ =>
      bn (ld 6 5 x1) fun v5 =>
      bn (sr 6 5 x1 (v5 - (if v3 < v2 then v3 else v2))) fun _ =>
      bn (F_Book_write 13 2 (4 : Int32) x1 (if v3 < v2 then v3 else v2)) fun _ =>
      bn (gdZ (1 : Int32)) fun _ => rt (1 : Int32)
    else
      bn (gdZ (0 : Int32)) fun _ => rt (0 : Int32)))
set_option maxRecDepth 4000 in
theorem e_s_A_pay_0 (f_A_keepPast : M Unit) (f_Book_write : Nat → Nat → Int32 → Int32 → Int32 → M Unit) (f_World_isPerson : Nat → Int32 → M Int32) (x1 : Int32) : wf (β := Int32) L X q_A_pay 2 (cs_A_pay f_A_keepPast f_Book_write f_World_isPerson) [2, 3] [] (fun _ _ _ => fl) (fun v => match v with | some (_, .int x) => rt x | _ => fl) 53 0 [(111, .ref 0), (0, .int x1), (0, dV), (0, dV)] [] = (bn (f_World_isPerson 2 x1) fun v1 =>
  (if v1 = 0 then
    bn (gdZ (0 : Int32)) fun _ => rt (0 : Int32)
  else
    bn (rd 2 1) fun v2 =>
    bn (ld 6 5 x1) fun v3 =>
    (if 0 < (if v3 < v2 then v3 else v2) then
      bn (f_A_keepPast) fun _ =>
      bn (rd 2 1) fun v4 =>
      bn (wr 2 1 (v4 - (if v3 < v2 then v3 else v2))) fun _ =>
      bn (ld 6 5 x1) fun v5 =>
      bn (sr 6 5 x1 (v5 - (if v3 < v2 then v3 else v2))) fun _ =>
      bn (f_Book_write 13 2 (4 : Int32) x1 (if v3 < v2 then v3 else v2)) fun _ =>
      bn (gdZ (1 : Int32)) fun _ => rt (1 : Int32)
    else
      bn (gdZ (0 : Int32)) fun _ => rt (0 : Int32)))) := rfl
theorem s_A_pay_0 {d : Nat} (hcs : AllS L X d (cs_A_pay F_A_keepPast F_Book_write F_World_isPerson)) (x1 : Int32) {o : Option Value × PH} {Q : (Int32) → MI → Prop} (q0 : ∀ v I, Q v I → o = (some (.int v), HH I)) (I : MI) (r : Int32) (I1 : MI) (h : F_A_pay x1 I = some (r, I1)) (hq : Q r I1) : At L X (d + 1) 31 0 [(111, .ref 0), (0, .int x1), (0, dV), (0, dV)] [] I o := by
  refine wf_ok z_A_pay hcs ?_ ?_ _ _ _ _ _ ⟨rfl, trivial, trivial, trivial, trivial⟩ trivial (unm_refl _ _) ((congrFun (e_s_A_pay_0 (L := L) (X := X) F_A_keepPast F_Book_write F_World_isPerson x1) I).trans h)
  · intro pc ls st I2 h1 h2 h3 h
    cases h
  · intro v I2 _ h
    split at h
    · cases h; exact q0 _ _ hq
    · cases h
theorem w_A_pay {d : Nat} (hcs : AllS L X d (cs_A_pay F_A_keepPast F_Book_write F_World_isPerson)) : Snd L X (d + 1) 31 2 (W_A_pay F_A_pay) := by
  refine ⟨_, z_A_pay, rfl, fun β args k I r hty hlen h => ?_⟩
  unfold W_A_pay at h
  split at h
  · rename_i t0 a0 u1 a1
    obtain ⟨hb0, h⟩ := mB_ok h
    have e0 := Nat.eq_of_beq_eq_true hb0
    have g0 : okB 111 a0 = true := e0 ▸ hty.1
    have e20 := one_111 g0
    subst e20
    obtain ⟨v, I1, h1, h2⟩ := bn_some h
    refine ⟨gf_obj (c := 11) (by decide) g0, rfl, some (0, .int v), I1, trivial, ?_, h2⟩
    exact s_A_pay_0 hcs a1  (Q := fun w I => w = v ∧ I = I1) (fun w I q => by obtain ⟨rfl, rfl⟩ := q; rfl) I v I1 h1 ⟨rfl, rfl⟩
  · cases h
theorem S_A_pay {d : Nat} (hd : 3 ≤ d) : Snd L X d 31 2 (W_A_pay F_A_pay) := by
  obtain ⟨e, rfl⟩ : ∃ e, d = e + 1 := ⟨d - 1, by omega⟩
  exact w_A_pay ⟨S_A_keepPast (by omega), S_Book_write (by omega), S_World_isPerson (by omega), trivial⟩
set_option maxRecDepth 100000 in
theorem z_A_within : pT[18]? = some (q_A_within, 3, 3, 2, 99) := rfl
def W_A_within (F : Int32 → Int32 → Int32 → M Int32) : CSem := fun _ args k => match args with
  | [(_, .int a0), (_, .int a1), (_, .int a2)] => bn (F a0 a1 a2) fun v => k (some (0, .int v))
  | _ => fl
def cs_A_within : List (Nat × Nat × CSem) := []
def F_A_within (x0 : Int32) (x1 : Int32) (x2 : Int32) : M (Int32) :=
  (if x0 < x1 then
    bn (gdZ (0 : Int32)) fun _ => rt (0 : Int32)
  else
    (if x2 < x0 then
      bn (gdZ (0 : Int32)) fun _ => rt (0 : Int32)
    else
      bn (gdZ (1 : Int32)) fun _ => rt (1 : Int32)))
set_option maxRecDepth 4000 in
theorem e_s_A_within_0 (x0 : Int32) (x1 : Int32) (x2 : Int32) : wf (β := Int32) L X q_A_within 2 cs_A_within [] [] (fun _ _ _ => fl) (fun v => match v with | some (_, .int x) => rt x | _ => fl) 15 0 [(0, .int x0), (0, .int x1), (0, .int x2)] [] = ((if x0 < x1 then
    bn (gdZ (0 : Int32)) fun _ => rt (0 : Int32)
  else
    (if x2 < x0 then
      bn (gdZ (0 : Int32)) fun _ => rt (0 : Int32)
    else
      bn (gdZ (1 : Int32)) fun _ => rt (1 : Int32)))) := rfl
theorem s_A_within_0 {d : Nat} (hcs : AllS L X d cs_A_within) (x0 : Int32) (x1 : Int32) (x2 : Int32) {o : Option Value × PH} {Q : (Int32) → MI → Prop} (q0 : ∀ v I, Q v I → o = (some (.int v), HH I)) (I : MI) (r : Int32) (I1 : MI) (h : F_A_within x0 x1 x2 I = some (r, I1)) (hq : Q r I1) : At L X (d + 1) 18 0 [(0, .int x0), (0, .int x1), (0, .int x2)] [] I o := by
  refine wf_ok z_A_within hcs ?_ ?_ _ _ _ _ _ ⟨trivial, trivial, trivial, trivial⟩ trivial (unm_refl _ _) ((congrFun (e_s_A_within_0 (L := L) (X := X) x0 x1 x2) I).trans h)
  · intro pc ls st I2 h1 h2 h3 h
    cases h
  · intro v I2 _ h
    split at h
    · cases h; exact q0 _ _ hq
    · cases h
theorem w_A_within {d : Nat} (hcs : AllS L X d cs_A_within) : Snd L X (d + 1) 18 3 (W_A_within F_A_within) := by
  refine ⟨_, z_A_within, rfl, fun β args k I r hty hlen h => ?_⟩
  unfold W_A_within at h
  split at h
  · rename_i u0 a0 u1 a1 u2 a2
    obtain ⟨v, I1, h1, h2⟩ := bn_some h
    refine ⟨rfl, rfl, some (0, .int v), I1, trivial, ?_, h2⟩
    exact s_A_within_0 hcs a0 a1 a2  (Q := fun w I => w = v ∧ I = I1) (fun w I q => by obtain ⟨rfl, rfl⟩ := q; rfl) I v I1 h1 ⟨rfl, rfl⟩
  · cases h
theorem S_A_within {d : Nat} (hd : 1 ≤ d) : Snd L X d 18 3 (W_A_within F_A_within) := by
  obtain ⟨e, rfl⟩ : ∃ e, d = e + 1 := ⟨d - 1, by omega⟩
  exact w_A_within trivial
set_option maxRecDepth 100000 in
theorem z_World_isAlias : pT[26]? = some (q_World_isAlias, 2, 2, 2, 10) := rfl
def W_World_isAlias (F : Nat → Int32 → M Int32) : CSem := fun _ args k => match args with
  | [(t0, .ref a0), (_, .int a1)] => mB (Nat.beq t0 110) <| bn (F a0 a1) fun v => k (some (0, .int v))
  | _ => fl
def cs_World_isAlias : List (Nat × Nat × CSem) := []
def F_World_isAlias (r0 : Nat) (x1 : Int32) : M (Int32) :=
  (if x1 < 0 then
    bn (gdZ (0 : Int32)) fun _ => rt (0 : Int32)
  else
    bn (rd r0 8) fun v1 =>
    (if x1 < v1 then
      bn (gdZ (1 : Int32)) fun _ => rt (1 : Int32)
    else
      bn (gdZ (0 : Int32)) fun _ => rt (0 : Int32)))
set_option maxRecDepth 4000 in
theorem e_s_World_isAlias_0 (r0 : Nat) (x1 : Int32) : wf (β := Int32) L X q_World_isAlias 2 cs_World_isAlias [] [] (fun _ _ _ => fl) (fun v => match v with | some (_, .int x) => rt x | _ => fl) 15 0 [(110, .ref r0), (0, .int x1)] [] = ((if x1 < 0 then
    bn (gdZ (0 : Int32)) fun _ => rt (0 : Int32)
  else
    bn (rd r0 8) fun v1 =>
    (if x1 < v1 then
      bn (gdZ (1 : Int32)) fun _ => rt (1 : Int32)
    else
      bn (gdZ (0 : Int32)) fun _ => rt (0 : Int32)))) := rfl
theorem s_World_isAlias_0 {d : Nat} (hcs : AllS L X d cs_World_isAlias) (r0 : Nat) (x1 : Int32) (t0 : okB 110 r0 = true) {o : Option Value × PH} {Q : (Int32) → MI → Prop} (q0 : ∀ v I, Q v I → o = (some (.int v), HH I)) (I : MI) (r : Int32) (I1 : MI) (h : F_World_isAlias r0 x1 I = some (r, I1)) (hq : Q r I1) : At L X (d + 1) 26 0 [(110, .ref r0), (0, .int x1)] [] I o := by
  refine wf_ok z_World_isAlias hcs ?_ ?_ _ _ _ _ _ ⟨t0, trivial, trivial⟩ trivial (unm_refl _ _) ((congrFun (e_s_World_isAlias_0 (L := L) (X := X) r0 x1) I).trans h)
  · intro pc ls st I2 h1 h2 h3 h
    cases h
  · intro v I2 _ h
    split at h
    · cases h; exact q0 _ _ hq
    · cases h
theorem w_World_isAlias {d : Nat} (hcs : AllS L X d cs_World_isAlias) : Snd L X (d + 1) 26 2 (W_World_isAlias F_World_isAlias) := by
  refine ⟨_, z_World_isAlias, rfl, fun β args k I r hty hlen h => ?_⟩
  unfold W_World_isAlias at h
  split at h
  · rename_i t0 a0 u1 a1
    obtain ⟨hb0, h⟩ := mB_ok h
    have e0 := Nat.eq_of_beq_eq_true hb0
    have g0 : okB 110 a0 = true := e0 ▸ hty.1
    obtain ⟨v, I1, h1, h2⟩ := bn_some h
    refine ⟨gf_obj (c := 10) (by decide) g0, rfl, some (0, .int v), I1, trivial, ?_, h2⟩
    exact s_World_isAlias_0 hcs a0 a1 g0 (Q := fun w I => w = v ∧ I = I1) (fun w I q => by obtain ⟨rfl, rfl⟩ := q; rfl) I v I1 h1 ⟨rfl, rfl⟩
  · cases h
theorem S_World_isAlias {d : Nat} (hd : 1 ≤ d) : Snd L X d 26 2 (W_World_isAlias F_World_isAlias) := by
  obtain ⟨e, rfl⟩ : ∃ e, d = e + 1 := ⟨d - 1, by omega⟩
  exact w_World_isAlias trivial
set_option maxRecDepth 100000 in
theorem z_World_lieDown : pT[30]? = some (q_World_lieDown, 2, 2, 0, 10) := rfl
def W_World_lieDown (F : Nat → Int32 → M Unit) : CSem := fun _ args k => match args with
  | [(t0, .ref a0), (_, .int a1)] => mB (Nat.beq t0 110) <| bn (F a0 a1) fun _ => k none
  | _ => fl
def cs_World_lieDown : List (Nat × Nat × CSem) := []
def F_World_lieDown (r0 : Nat) (x1 : Int32) : M (Unit) :=
  bn (sr 18 (r0 + 8) x1 (0 : Int32)) fun _ =>
  bn (ld 18 (r0 + 6) x1) fun v1 =>
  bn (sr 18 (r0 + 7) x1 v1) fun _ =>
  rt ()
set_option maxRecDepth 4000 in
theorem e_s_World_lieDown_0 (r0 : Nat) (x1 : Int32) : wf (β := Unit) L X q_World_lieDown 0 cs_World_lieDown [] [] (fun _ _ _ => fl) (fun v => match v with | none => rt () | _ => fl) 19 0 [(110, .ref r0), (0, .int x1)] [] = (bn (sr 18 (r0 + 8) x1 (0 : Int32)) fun _ =>
  bn (ld 18 (r0 + 6) x1) fun v1 =>
  bn (sr 18 (r0 + 7) x1 v1) fun _ =>
  rt ()) := rfl
theorem s_World_lieDown_0 {d : Nat} (hcs : AllS L X d cs_World_lieDown) (r0 : Nat) (x1 : Int32) (t0 : okB 110 r0 = true) {o : Option Value × PH} {Q : (Unit) → MI → Prop} (q0 : ∀ v I, Q v I → o = (none, HH I)) (I : MI) (r : Unit) (I1 : MI) (h : F_World_lieDown r0 x1 I = some (r, I1)) (hq : Q r I1) : At L X (d + 1) 30 0 [(110, .ref r0), (0, .int x1)] [] I o := by
  refine wf_ok z_World_lieDown hcs ?_ ?_ _ _ _ _ _ ⟨t0, trivial, trivial⟩ trivial (unm_refl _ _) ((congrFun (e_s_World_lieDown_0 (L := L) (X := X) r0 x1) I).trans h)
  · intro pc ls st I2 h1 h2 h3 h
    cases h
  · intro v I2 _ h
    split at h
    · cases h; exact q0 _ _ hq
    · cases h
theorem w_World_lieDown {d : Nat} (hcs : AllS L X d cs_World_lieDown) : Snd L X (d + 1) 30 2 (W_World_lieDown F_World_lieDown) := by
  refine ⟨_, z_World_lieDown, rfl, fun β args k I r hty hlen h => ?_⟩
  unfold W_World_lieDown at h
  split at h
  · rename_i t0 a0 u1 a1
    obtain ⟨hb0, h⟩ := mB_ok h
    have e0 := Nat.eq_of_beq_eq_true hb0
    have g0 : okB 110 a0 = true := e0 ▸ hty.1
    obtain ⟨v, I1, h1, h2⟩ := bn_some h
    refine ⟨gf_obj (c := 10) (by decide) g0, rfl, none, I1, trivial, ?_, h2⟩
    exact s_World_lieDown_0 hcs a0 a1 g0 (Q := fun w I => w = v ∧ I = I1) (fun w I q => by obtain ⟨rfl, rfl⟩ := q; rfl) I v I1 h1 ⟨rfl, rfl⟩
  · cases h
theorem S_World_lieDown {d : Nat} (hd : 1 ≤ d) : Snd L X d 30 2 (W_World_lieDown F_World_lieDown) := by
  obtain ⟨e, rfl⟩ : ∃ e, d = e + 1 := ⟨d - 1, by omega⟩
  exact w_World_lieDown trivial
set_option maxRecDepth 100000 in
theorem z_World_walkOut : pT[29]? = some (q_World_walkOut, 3, 3, 0, 10) := rfl
def W_World_walkOut (F : Nat → Int32 → Int32 → M Unit) : CSem := fun _ args k => match args with
  | [(t0, .ref a0), (_, .int a1), (_, .int a2)] => mB (Nat.beq t0 110) <| bn (F a0 a1 a2) fun _ => k none
  | _ => fl
def cs_World_walkOut : List (Nat × Nat × CSem) := []
def F_World_walkOut (r0 : Nat) (x1 : Int32) (x2 : Int32) : M (Unit) :=
  bn (sr 18 (r0 + 8) x1 (1 : Int32)) fun _ =>
  bn (sr 18 (r0 + 7) x1 x2) fun _ =>
  rt ()
set_option maxRecDepth 4000 in
theorem e_s_World_walkOut_0 (r0 : Nat) (x1 : Int32) (x2 : Int32) : wf (β := Unit) L X q_World_walkOut 0 cs_World_walkOut [] [] (fun _ _ _ => fl) (fun v => match v with | none => rt () | _ => fl) 16 0 [(110, .ref r0), (0, .int x1), (0, .int x2)] [] = (bn (sr 18 (r0 + 8) x1 (1 : Int32)) fun _ =>
  bn (sr 18 (r0 + 7) x1 x2) fun _ =>
  rt ()) := rfl
theorem s_World_walkOut_0 {d : Nat} (hcs : AllS L X d cs_World_walkOut) (r0 : Nat) (x1 : Int32) (x2 : Int32) (t0 : okB 110 r0 = true) {o : Option Value × PH} {Q : (Unit) → MI → Prop} (q0 : ∀ v I, Q v I → o = (none, HH I)) (I : MI) (r : Unit) (I1 : MI) (h : F_World_walkOut r0 x1 x2 I = some (r, I1)) (hq : Q r I1) : At L X (d + 1) 29 0 [(110, .ref r0), (0, .int x1), (0, .int x2)] [] I o := by
  refine wf_ok z_World_walkOut hcs ?_ ?_ _ _ _ _ _ ⟨t0, trivial, trivial, trivial⟩ trivial (unm_refl _ _) ((congrFun (e_s_World_walkOut_0 (L := L) (X := X) r0 x1 x2) I).trans h)
  · intro pc ls st I2 h1 h2 h3 h
    cases h
  · intro v I2 _ h
    split at h
    · cases h; exact q0 _ _ hq
    · cases h
theorem w_World_walkOut {d : Nat} (hcs : AllS L X d cs_World_walkOut) : Snd L X (d + 1) 29 3 (W_World_walkOut F_World_walkOut) := by
  refine ⟨_, z_World_walkOut, rfl, fun β args k I r hty hlen h => ?_⟩
  unfold W_World_walkOut at h
  split at h
  · rename_i t0 a0 u1 a1 u2 a2
    obtain ⟨hb0, h⟩ := mB_ok h
    have e0 := Nat.eq_of_beq_eq_true hb0
    have g0 : okB 110 a0 = true := e0 ▸ hty.1
    obtain ⟨v, I1, h1, h2⟩ := bn_some h
    refine ⟨gf_obj (c := 10) (by decide) g0, rfl, none, I1, trivial, ?_, h2⟩
    exact s_World_walkOut_0 hcs a0 a1 a2 g0 (Q := fun w I => w = v ∧ I = I1) (fun w I q => by obtain ⟨rfl, rfl⟩ := q; rfl) I v I1 h1 ⟨rfl, rfl⟩
  · cases h
theorem S_World_walkOut {d : Nat} (hd : 1 ≤ d) : Snd L X d 29 3 (W_World_walkOut F_World_walkOut) := by
  obtain ⟨e, rfl⟩ : ∃ e, d = e + 1 := ⟨d - 1, by omega⟩
  exact w_World_walkOut trivial
set_option maxRecDepth 100000 in
theorem z_A_act : pT[25]? = some (q_A_act, 4, 5, 2, 11) := rfl
def W_A_act (F : Int32 → Int32 → Int32 → M Int32) : CSem := fun _ args k => match args with
  | [(t0, .ref a0), (_, .int a1), (_, .int a2), (_, .int a3)] => mB (Nat.beq t0 111) <| bn (F a1 a2 a3) fun v => k (some (0, .int v))
  | _ => fl
def cs_A_act (f_A_keepPast : M Unit) (f_A_pay : Int32 → M Int32) (f_A_within : Int32 → Int32 → Int32 → M Int32) (f_World_isAlias : Nat → Int32 → M Int32) (f_World_lieDown : Nat → Int32 → M Unit) (f_World_walkOut : Nat → Int32 → Int32 → M Unit) : List (Nat × Nat × CSem) := [(27, 1, W_A_keepPast f_A_keepPast), (31, 2, W_A_pay f_A_pay), (18, 3, W_A_within f_A_within), (26, 2, W_World_isAlias f_World_isAlias), (30, 2, W_World_lieDown f_World_lieDown), (29, 3, W_World_walkOut f_World_walkOut)]
def F_A_act (x1 : Int32) (x2 : Int32) (x3 : Int32) : M (Int32) :=
  (if x1 = (0 : Int32) then
    bn (F_World_isAlias 2 x2) fun v1 =>
    (if v1 = 0 then
      bn (gdZ (0 : Int32)) fun _ => rt (0 : Int32)
    else
      bn (ld 18 12 x2) fun v2 =>
      (if v2 = 0 then
        bn (F_A_within x3 (0 : Int32) (9 : Int32)) fun v3 =>
        (if v3 = 0 then
          bn (gdZ (0 : Int32)) fun _ => rt (0 : Int32)
        else
          bn (F_A_keepPast) fun _ =>
          bn (F_World_walkOut 2 x2 x3) fun _ =>
          bn (gdZ (1 : Int32)) fun _ => rt (1 : Int32))
      else
        bn (gdZ (0 : Int32)) fun _ => rt (0 : Int32)))
  else (if x1 = (1 : Int32) then
    bn (F_World_isAlias 2 x2) fun v4 =>
    (if v4 = 0 then
      bn (gdZ (0 : Int32)) fun _ => rt (0 : Int32)
    else
      bn (ld 18 10 x2) fun v5 =>
      (if v5 = 0 then
        bn (gdZ (0 : Int32)) fun _ => rt (0 : Int32)
      else
        bn (F_A_keepPast) fun _ =>
        bn (F_World_lieDown 2 x2) fun _ =>
        bn (gdZ (1 : Int32)) fun _ => rt (1 : Int32)))
  else (if x1 = (2 : Int32) then
    bn (F_A_pay x2) fun v6 =>
    bn (gdZ v6) fun _ => rt v6
  else bn (gdZ (0 : Int32)) fun _ => rt (0 : Int32))))
set_option maxRecDepth 4000 in
theorem e_s_A_act_0 (f_A_keepPast : M Unit) (f_A_pay : Int32 → M Int32) (f_A_within : Int32 → Int32 → Int32 → M Int32) (f_World_isAlias : Nat → Int32 → M Int32) (f_World_lieDown : Nat → Int32 → M Unit) (f_World_walkOut : Nat → Int32 → Int32 → M Unit) (x1 : Int32) (x2 : Int32) (x3 : Int32) : wf (β := Int32) L X q_A_act 2 (cs_A_act f_A_keepPast f_A_pay f_A_within f_World_isAlias f_World_lieDown f_World_walkOut) [4] [] (fun _ _ _ => fl) (fun v => match v with | some (_, .int x) => rt x | _ => fl) 59 0 [(111, .ref 0), (0, .int x1), (0, .int x2), (0, .int x3), (0, dV)] [] = ((if x1 = (0 : Int32) then
    bn (f_World_isAlias 2 x2) fun v1 =>
    (if v1 = 0 then
      bn (gdZ (0 : Int32)) fun _ => rt (0 : Int32)
    else
      bn (ld 18 12 x2) fun v2 =>
      (if v2 = 0 then
        bn (f_A_within x3 (0 : Int32) (9 : Int32)) fun v3 =>
        (if v3 = 0 then
          bn (gdZ (0 : Int32)) fun _ => rt (0 : Int32)
        else
          bn (f_A_keepPast) fun _ =>
          bn (f_World_walkOut 2 x2 x3) fun _ =>
          bn (gdZ (1 : Int32)) fun _ => rt (1 : Int32))
      else
        bn (gdZ (0 : Int32)) fun _ => rt (0 : Int32)))
  else (if x1 = (1 : Int32) then
    bn (f_World_isAlias 2 x2) fun v4 =>
    (if v4 = 0 then
      bn (gdZ (0 : Int32)) fun _ => rt (0 : Int32)
    else
      bn (ld 18 10 x2) fun v5 =>
      (if v5 = 0 then
        bn (gdZ (0 : Int32)) fun _ => rt (0 : Int32)
      else
        bn (f_A_keepPast) fun _ =>
        bn (f_World_lieDown 2 x2) fun _ =>
        bn (gdZ (1 : Int32)) fun _ => rt (1 : Int32)))
  else (if x1 = (2 : Int32) then
    bn (f_A_pay x2) fun v6 =>
    bn (gdZ v6) fun _ => rt v6
  else bn (gdZ (0 : Int32)) fun _ => rt (0 : Int32))))) := rfl
theorem s_A_act_0 {d : Nat} (hcs : AllS L X d (cs_A_act F_A_keepPast F_A_pay F_A_within F_World_isAlias F_World_lieDown F_World_walkOut)) (x1 : Int32) (x2 : Int32) (x3 : Int32) {o : Option Value × PH} {Q : (Int32) → MI → Prop} (q0 : ∀ v I, Q v I → o = (some (.int v), HH I)) (I : MI) (r : Int32) (I1 : MI) (h : F_A_act x1 x2 x3 I = some (r, I1)) (hq : Q r I1) : At L X (d + 1) 25 0 [(111, .ref 0), (0, .int x1), (0, .int x2), (0, .int x3), (0, dV)] [] I o := by
  refine wf_ok z_A_act hcs ?_ ?_ _ _ _ _ _ ⟨rfl, trivial, trivial, trivial, trivial, trivial⟩ trivial (unm_refl _ _) ((congrFun (e_s_A_act_0 (L := L) (X := X) F_A_keepPast F_A_pay F_A_within F_World_isAlias F_World_lieDown F_World_walkOut x1 x2 x3) I).trans h)
  · intro pc ls st I2 h1 h2 h3 h
    cases h
  · intro v I2 _ h
    split at h
    · cases h; exact q0 _ _ hq
    · cases h
theorem w_A_act {d : Nat} (hcs : AllS L X d (cs_A_act F_A_keepPast F_A_pay F_A_within F_World_isAlias F_World_lieDown F_World_walkOut)) : Snd L X (d + 1) 25 4 (W_A_act F_A_act) := by
  refine ⟨_, z_A_act, rfl, fun β args k I r hty hlen h => ?_⟩
  unfold W_A_act at h
  split at h
  · rename_i t0 a0 u1 a1 u2 a2 u3 a3
    obtain ⟨hb0, h⟩ := mB_ok h
    have e0 := Nat.eq_of_beq_eq_true hb0
    have g0 : okB 111 a0 = true := e0 ▸ hty.1
    have e20 := one_111 g0
    subst e20
    obtain ⟨v, I1, h1, h2⟩ := bn_some h
    refine ⟨gf_obj (c := 11) (by decide) g0, rfl, some (0, .int v), I1, trivial, ?_, h2⟩
    exact s_A_act_0 hcs a1 a2 a3  (Q := fun w I => w = v ∧ I = I1) (fun w I q => by obtain ⟨rfl, rfl⟩ := q; rfl) I v I1 h1 ⟨rfl, rfl⟩
  · cases h
theorem S_A_act {d : Nat} (hd : 4 ≤ d) : Snd L X d 25 4 (W_A_act F_A_act) := by
  obtain ⟨e, rfl⟩ : ∃ e, d = e + 1 := ⟨d - 1, by omega⟩
  exact w_A_act ⟨S_A_keepPast (by omega), S_A_pay (by omega), S_A_within (by omega), S_World_isAlias (by omega), S_World_lieDown (by omega), S_World_walkOut (by omega), trivial⟩
set_option maxRecDepth 100000 in
theorem z_A_forget : pT[15]? = some (q_A_forget, 1, 1, 0, 11) := rfl
def W_A_forget (F : M Unit) : CSem := fun _ args k => match args with
  | [(t0, .ref a0)] => mB (Nat.beq t0 111) <| bn (F) fun _ => k none
  | _ => fl
def cs_A_forget : List (Nat × Nat × CSem) := []
def F_A_forget : M (Unit) :=
  bn (wr 0 9 (0 : Int32)) fun _ =>
  rt ()
set_option maxRecDepth 4000 in
theorem e_s_A_forget_0 : wf (β := Unit) L X q_A_forget 0 cs_A_forget [] [] (fun _ _ _ => fl) (fun v => match v with | none => rt () | _ => fl) 9 0 [(111, .ref 0)] [] = (bn (wr 0 9 (0 : Int32)) fun _ =>
  rt ()) := rfl
theorem s_A_forget_0 {d : Nat} (hcs : AllS L X d cs_A_forget) {o : Option Value × PH} {Q : (Unit) → MI → Prop} (q0 : ∀ v I, Q v I → o = (none, HH I)) (I : MI) (r : Unit) (I1 : MI) (h : F_A_forget I = some (r, I1)) (hq : Q r I1) : At L X (d + 1) 15 0 [(111, .ref 0)] [] I o := by
  refine wf_ok z_A_forget hcs ?_ ?_ _ _ _ _ _ ⟨rfl, trivial⟩ trivial (unm_refl _ _) ((congrFun (e_s_A_forget_0 (L := L) (X := X)) I).trans h)
  · intro pc ls st I2 h1 h2 h3 h
    cases h
  · intro v I2 _ h
    split at h
    · cases h; exact q0 _ _ hq
    · cases h
theorem w_A_forget {d : Nat} (hcs : AllS L X d cs_A_forget) : Snd L X (d + 1) 15 1 (W_A_forget F_A_forget) := by
  refine ⟨_, z_A_forget, rfl, fun β args k I r hty hlen h => ?_⟩
  unfold W_A_forget at h
  split at h
  · rename_i t0 a0
    obtain ⟨hb0, h⟩ := mB_ok h
    have e0 := Nat.eq_of_beq_eq_true hb0
    have g0 : okB 111 a0 = true := e0 ▸ hty.1
    have e20 := one_111 g0
    subst e20
    obtain ⟨v, I1, h1, h2⟩ := bn_some h
    refine ⟨gf_obj (c := 11) (by decide) g0, rfl, none, I1, trivial, ?_, h2⟩
    exact s_A_forget_0 hcs   (Q := fun w I => w = v ∧ I = I1) (fun w I q => by obtain ⟨rfl, rfl⟩ := q; rfl) I v I1 h1 ⟨rfl, rfl⟩
  · cases h
theorem S_A_forget {d : Nat} (hd : 1 ≤ d) : Snd L X d 15 1 (W_A_forget F_A_forget) := by
  obtain ⟨e, rfl⟩ : ∃ e, d = e + 1 := ⟨d - 1, by omega⟩
  exact w_A_forget trivial
set_option maxRecDepth 100000 in
theorem z_World_addAlias : pT[20]? = some (q_World_addAlias, 4, 6, 1, 10) := rfl
def W_World_addAlias (F : Nat → Int32 → Int32 → Int32 → M Int32) : CSem := fun _ args k => match args with
  | [(t0, .ref a0), (_, .int a1), (_, .int a2), (_, .int a3)] => mB (Nat.beq t0 110) <| bn (F a0 a1 a2 a3) fun v => k (some (0, .int v))
  | _ => fl
def cs_World_addAlias (f_A_within : Int32 → Int32 → Int32 → M Int32) (f_World_isPerson : Nat → Int32 → M Int32) : List (Nat × Nat × CSem) := [(18, 3, W_A_within f_A_within), (21, 2, W_World_isPerson f_World_isPerson)]
def K_World_addAlias_32 (r0 : Nat) (x1 : Int32) (x2 : Int32) (x3 : Int32) : M (Int32) :=
  bn (rd r0 8) fun v1 =>
  (if v1 < (18 : Int32) then
    (if (0 : Int32) = 0 then
      rt (-1 : Int32)
    else
      bn (rd r0 8) fun v2 =>
      bn (sr 18 (r0 + 4) v2 x1) fun _ =>
      bn (sr 18 (r0 + 5) v2 x2) fun _ =>
      bn (sr 18 (r0 + 6) v2 x3) fun _ =>
      bn (sr 18 (r0 + 7) v2 x3) fun _ =>
      bn (sr 18 (r0 + 8) v2 (0 : Int32)) fun _ =>
      bn (sr 18 (r0 + 9) v2 (0 : Int32)) fun _ =>
      bn (sr 18 (r0 + 10) v2 (0 : Int32)) fun _ =>
      bn (rd r0 8) fun v3 =>
      bn (wr r0 8 (v3 + (1 : Int32))) fun _ =>
      rt v2)
  else
    rt (-1 : Int32))
set_option maxRecDepth 4000 in
theorem e_s_World_addAlias_32 (f_A_within : Int32 → Int32 → Int32 → M Int32) (f_World_isPerson : Nat → Int32 → M Int32) (r0 : Nat) (x1 : Int32) (x2 : Int32) (x3 : Int32) : wf (β := Int32) L X q_World_addAlias 1 (cs_World_addAlias f_A_within f_World_isPerson) [4, 5] [32] (fun _ _ _ => fl) (fun v => match v with | some (_, .int x) => rt x | _ => fl) 77 32 [(110, .ref r0), (0, .int x1), (0, .int x2), (0, .int x3), (0, dV), (0, dV)] [] = (bn (rd r0 8) fun v1 =>
  (if v1 < (18 : Int32) then
    (if (0 : Int32) = 0 then
      rt (-1 : Int32)
    else
      bn (rd r0 8) fun v2 =>
      bn (sr 18 (r0 + 4) v2 x1) fun _ =>
      bn (sr 18 (r0 + 5) v2 x2) fun _ =>
      bn (sr 18 (r0 + 6) v2 x3) fun _ =>
      bn (sr 18 (r0 + 7) v2 x3) fun _ =>
      bn (sr 18 (r0 + 8) v2 (0 : Int32)) fun _ =>
      bn (sr 18 (r0 + 9) v2 (0 : Int32)) fun _ =>
      bn (sr 18 (r0 + 10) v2 (0 : Int32)) fun _ =>
      bn (rd r0 8) fun v3 =>
      bn (wr r0 8 (v3 + (1 : Int32))) fun _ =>
      rt v2)
  else
    rt (-1 : Int32))) := rfl
theorem s_World_addAlias_32 {d : Nat} (hcs : AllS L X d (cs_World_addAlias F_A_within F_World_isPerson)) (r0 : Nat) (x1 : Int32) (x2 : Int32) (x3 : Int32) (t0 : okB 110 r0 = true) {o : Option Value × PH} {Q : (Int32) → MI → Prop} (q0 : ∀ v I, Q v I → o = (some (.int v), HH I)) (I : MI) (r : Int32) (I1 : MI) (h : K_World_addAlias_32 r0 x1 x2 x3 I = some (r, I1)) (hq : Q r I1) : At L X (d + 1) 20 32 [(110, .ref r0), (0, .int x1), (0, .int x2), (0, .int x3), (0, dV), (0, dV)] [] I o := by
  refine wf_ok z_World_addAlias hcs ?_ ?_ _ _ _ _ _ ⟨t0, trivial, trivial, trivial, trivial, trivial, trivial⟩ trivial (unm_refl _ _) ((congrFun (e_s_World_addAlias_32 (L := L) (X := X) F_A_within F_World_isPerson r0 x1 x2 x3) I).trans h)
  · intro pc ls st I2 h1 h2 h3 h
    cases h
  · intro v I2 _ h
    split at h
    · cases h; exact q0 _ _ hq
    · cases h
def F_World_addAlias (r0 : Nat) (x1 : Int32) (x2 : Int32) (x3 : Int32) : M (Int32) :=
  bn (F_World_isPerson r0 x1) fun v1 =>
  (if v1 = 0 then
    K_World_addAlias_32 r0 x1 x2 x3
  else
    bn (F_A_within x2 (0 : Int32) (9 : Int32)) fun v2 =>
    (if v2 = 0 then
      K_World_addAlias_32 r0 x1 x2 x3
    else
      bn (F_A_within x3 (0 : Int32) (9 : Int32)) fun v3 =>
      (if v3 = 0 then
        K_World_addAlias_32 r0 x1 x2 x3
      else
        bn (rd r0 8) fun v4 =>
        (if v4 < (18 : Int32) then
          (if (1 : Int32) = 0 then
            rt (-1 : Int32)
          else
            bn (rd r0 8) fun v5 =>
            bn (sr 18 (r0 + 4) v5 x1) fun _ =>
            bn (sr 18 (r0 + 5) v5 x2) fun _ =>
            bn (sr 18 (r0 + 6) v5 x3) fun _ =>
            bn (sr 18 (r0 + 7) v5 x3) fun _ =>
            bn (sr 18 (r0 + 8) v5 (0 : Int32)) fun _ =>
            bn (sr 18 (r0 + 9) v5 (0 : Int32)) fun _ =>
            bn (sr 18 (r0 + 10) v5 (0 : Int32)) fun _ =>
            bn (rd r0 8) fun v6 =>
            bn (wr r0 8 (v6 + (1 : Int32))) fun _ =>
            rt v5)
        else
          rt (-1 : Int32)))))
set_option maxRecDepth 4000 in
theorem e_s_World_addAlias_0 (f_A_within : Int32 → Int32 → Int32 → M Int32) (f_World_isPerson : Nat → Int32 → M Int32) (k_32 : Nat → Int32 → Int32 → Int32 → M (Int32)) (r0 : Nat) (x1 : Int32) (x2 : Int32) (x3 : Int32) : wf (β := Int32) L X q_World_addAlias 1 (cs_World_addAlias f_A_within f_World_isPerson) [4, 5] [32] (fun pc ls st => mC (Nat.beq pc 32) (mN st <| gD ls 4 <| gD ls 5 <| k_32 r0 x1 x2 x3) (fl)) (fun v => match v with | some (_, .int x) => rt x | _ => fl) 77 0 [(110, .ref r0), (0, .int x1), (0, .int x2), (0, .int x3), (0, dV), (0, dV)] [] = (bn (f_World_isPerson r0 x1) fun v1 =>
  (if v1 = 0 then
    k_32 r0 x1 x2 x3
  else
    bn (f_A_within x2 (0 : Int32) (9 : Int32)) fun v2 =>
    (if v2 = 0 then
      k_32 r0 x1 x2 x3
    else
      bn (f_A_within x3 (0 : Int32) (9 : Int32)) fun v3 =>
      (if v3 = 0 then
        k_32 r0 x1 x2 x3
      else
        bn (rd r0 8) fun v4 =>
        (if v4 < (18 : Int32) then
          (if (1 : Int32) = 0 then
            rt (-1 : Int32)
          else
            bn (rd r0 8) fun v5 =>
            bn (sr 18 (r0 + 4) v5 x1) fun _ =>
            bn (sr 18 (r0 + 5) v5 x2) fun _ =>
            bn (sr 18 (r0 + 6) v5 x3) fun _ =>
            bn (sr 18 (r0 + 7) v5 x3) fun _ =>
            bn (sr 18 (r0 + 8) v5 (0 : Int32)) fun _ =>
            bn (sr 18 (r0 + 9) v5 (0 : Int32)) fun _ =>
            bn (sr 18 (r0 + 10) v5 (0 : Int32)) fun _ =>
            bn (rd r0 8) fun v6 =>
            bn (wr r0 8 (v6 + (1 : Int32))) fun _ =>
            rt v5)
        else
          rt (-1 : Int32)))))) := rfl
theorem s_World_addAlias_0 {d : Nat} (hcs : AllS L X d (cs_World_addAlias F_A_within F_World_isPerson)) (r0 : Nat) (x1 : Int32) (x2 : Int32) (x3 : Int32) (t0 : okB 110 r0 = true) {o : Option Value × PH} {Q : (Int32) → MI → Prop} (q0 : ∀ v I, Q v I → o = (some (.int v), HH I)) (I : MI) (r : Int32) (I1 : MI) (h : F_World_addAlias r0 x1 x2 x3 I = some (r, I1)) (hq : Q r I1) : At L X (d + 1) 20 0 [(110, .ref r0), (0, .int x1), (0, .int x2), (0, .int x3), (0, dV), (0, dV)] [] I o := by
  refine wf_ok z_World_addAlias hcs ?_ ?_ _ _ _ _ _ ⟨t0, trivial, trivial, trivial, trivial, trivial, trivial⟩ trivial (unm_refl _ _) ((congrFun (e_s_World_addAlias_0 (L := L) (X := X) F_A_within F_World_isPerson K_World_addAlias_32 r0 x1 x2 x3) I).trans h)
  · intro pc ls st I2 h1 h2 h3 h
    rcases mC_ok h with ⟨hb, h⟩ | ⟨_, h⟩
    · have e := Nat.eq_of_beq_eq_true hb
      subst e
      obtain ⟨hst, h⟩ := mN_ok h
      subst hst
      obtain ⟨n4, h⟩ := gD_ok h
      obtain ⟨n5, h⟩ := gD_ok h
      refine at_leaf (ls2 := [(110, .ref r0), (0, .int x1), (0, .int x2), (0, .int x3), (0, dV), (0, dV)]) h3.1 ⟨Or.inr ⟨_, (h3.2 0 rfl).trans rfl⟩, Or.inr ⟨_, (h3.2 1 rfl).trans rfl⟩, Or.inr ⟨_, (h3.2 2 rfl).trans rfl⟩, Or.inr ⟨_, (h3.2 3 rfl).trans rfl⟩, Or.inl ⟨rfl, n4⟩, Or.inl ⟨rfl, n5⟩, trivial⟩ ?_
      exact s_World_addAlias_32 hcs r0 x1 x2 x3 t0 q0 _ _ _ h hq
    cases h
  · intro v I2 _ h
    split at h
    · cases h; exact q0 _ _ hq
    · cases h
theorem w_World_addAlias {d : Nat} (hcs : AllS L X d (cs_World_addAlias F_A_within F_World_isPerson)) : Snd L X (d + 1) 20 4 (W_World_addAlias F_World_addAlias) := by
  refine ⟨_, z_World_addAlias, rfl, fun β args k I r hty hlen h => ?_⟩
  unfold W_World_addAlias at h
  split at h
  · rename_i t0 a0 u1 a1 u2 a2 u3 a3
    obtain ⟨hb0, h⟩ := mB_ok h
    have e0 := Nat.eq_of_beq_eq_true hb0
    have g0 : okB 110 a0 = true := e0 ▸ hty.1
    obtain ⟨v, I1, h1, h2⟩ := bn_some h
    refine ⟨gf_obj (c := 10) (by decide) g0, rfl, some (0, .int v), I1, trivial, ?_, h2⟩
    exact s_World_addAlias_0 hcs a0 a1 a2 a3 g0 (Q := fun w I => w = v ∧ I = I1) (fun w I q => by obtain ⟨rfl, rfl⟩ := q; rfl) I v I1 h1 ⟨rfl, rfl⟩
  · cases h
theorem S_World_addAlias {d : Nat} (hd : 2 ≤ d) : Snd L X d 20 4 (W_World_addAlias F_World_addAlias) := by
  obtain ⟨e, rfl⟩ : ∃ e, d = e + 1 := ⟨d - 1, by omega⟩
  exact w_World_addAlias ⟨S_A_within (by omega), S_World_isPerson (by omega), trivial⟩
set_option maxRecDepth 100000 in
theorem z_A_alias : pT[19]? = some (q_A_alias, 4, 5, 1, 11) := rfl
def W_A_alias (F : Int32 → Int32 → Int32 → M Int32) : CSem := fun _ args k => match args with
  | [(t0, .ref a0), (_, .int a1), (_, .int a2), (_, .int a3)] => mB (Nat.beq t0 111) <| bn (F a1 a2 a3) fun v => k (some (0, .int v))
  | _ => fl
def cs_A_alias (f_A_forget : M Unit) (f_World_addAlias : Nat → Int32 → Int32 → Int32 → M Int32) : List (Nat × Nat × CSem) := [(15, 1, W_A_forget f_A_forget), (20, 4, W_World_addAlias f_World_addAlias)]
def F_A_alias (x1 : Int32) (x2 : Int32) (x3 : Int32) : M (Int32) :=
  bn (F_World_addAlias 2 x1 x2 x3) fun v1 =>
  (if v1 = (-1 : Int32) then
    rt v1
  else
    bn (F_A_forget) fun _ =>
    rt v1)
set_option maxRecDepth 4000 in
theorem e_s_A_alias_0 (f_A_forget : M Unit) (f_World_addAlias : Nat → Int32 → Int32 → Int32 → M Int32) (x1 : Int32) (x2 : Int32) (x3 : Int32) : wf (β := Int32) L X q_A_alias 1 (cs_A_alias f_A_forget f_World_addAlias) [4] [] (fun _ _ _ => fl) (fun v => match v with | some (_, .int x) => rt x | _ => fl) 20 0 [(111, .ref 0), (0, .int x1), (0, .int x2), (0, .int x3), (0, dV)] [] = (bn (f_World_addAlias 2 x1 x2 x3) fun v1 =>
  (if v1 = (-1 : Int32) then
    rt v1
  else
    bn (f_A_forget) fun _ =>
    rt v1)) := rfl
theorem s_A_alias_0 {d : Nat} (hcs : AllS L X d (cs_A_alias F_A_forget F_World_addAlias)) (x1 : Int32) (x2 : Int32) (x3 : Int32) {o : Option Value × PH} {Q : (Int32) → MI → Prop} (q0 : ∀ v I, Q v I → o = (some (.int v), HH I)) (I : MI) (r : Int32) (I1 : MI) (h : F_A_alias x1 x2 x3 I = some (r, I1)) (hq : Q r I1) : At L X (d + 1) 19 0 [(111, .ref 0), (0, .int x1), (0, .int x2), (0, .int x3), (0, dV)] [] I o := by
  refine wf_ok z_A_alias hcs ?_ ?_ _ _ _ _ _ ⟨rfl, trivial, trivial, trivial, trivial, trivial⟩ trivial (unm_refl _ _) ((congrFun (e_s_A_alias_0 (L := L) (X := X) F_A_forget F_World_addAlias x1 x2 x3) I).trans h)
  · intro pc ls st I2 h1 h2 h3 h
    cases h
  · intro v I2 _ h
    split at h
    · cases h; exact q0 _ _ hq
    · cases h
theorem w_A_alias {d : Nat} (hcs : AllS L X d (cs_A_alias F_A_forget F_World_addAlias)) : Snd L X (d + 1) 19 4 (W_A_alias F_A_alias) := by
  refine ⟨_, z_A_alias, rfl, fun β args k I r hty hlen h => ?_⟩
  unfold W_A_alias at h
  split at h
  · rename_i t0 a0 u1 a1 u2 a2 u3 a3
    obtain ⟨hb0, h⟩ := mB_ok h
    have e0 := Nat.eq_of_beq_eq_true hb0
    have g0 : okB 111 a0 = true := e0 ▸ hty.1
    have e20 := one_111 g0
    subst e20
    obtain ⟨v, I1, h1, h2⟩ := bn_some h
    refine ⟨gf_obj (c := 11) (by decide) g0, rfl, some (0, .int v), I1, trivial, ?_, h2⟩
    exact s_A_alias_0 hcs a1 a2 a3  (Q := fun w I => w = v ∧ I = I1) (fun w I q => by obtain ⟨rfl, rfl⟩ := q; rfl) I v I1 h1 ⟨rfl, rfl⟩
  · cases h
theorem S_A_alias {d : Nat} (hd : 3 ≤ d) : Snd L X d 19 4 (W_A_alias F_A_alias) := by
  obtain ⟨e, rfl⟩ : ∃ e, d = e + 1 := ⟨d - 1, by omega⟩
  exact w_A_alias ⟨S_A_forget (by omega), S_World_addAlias (by omega), trivial⟩
set_option maxRecDepth 100000 in
theorem z_Table_cell : pT[99]? = some (q_Table_cell, 3, 3, 0, 8) := rfl
def W_Table_cell (F : Nat → Int32 → Int32 → M Unit) : CSem := fun _ args k => match args with
  | [(t0, .ref a0), (_, .int a1), (_, .int a2)] => mB (Nat.beq t0 108) <| bn (F a0 a1 a2) fun _ => k none
  | _ => fl
def cs_Table_cell : List (Nat × Nat × CSem) := []
def F_Table_cell (r0 : Nat) (x1 : Int32) (x2 : Int32) : M (Unit) :=
  bn (rd r0 0) fun v1 =>
  (if x1 < v1 then
    bn (rd r0 3) fun v2 =>
    bn (rd r0 0) fun v3 =>
    bn (sr (siz shT (r0 + 1)) (r0 + 1) ((v2 * v3) + x1) x2) fun _ =>
    rt ()
  else
    rt ())
set_option maxRecDepth 4000 in
theorem e_s_Table_cell_0 (r0 : Nat) (x1 : Int32) (x2 : Int32) : wf (β := Unit) L X q_Table_cell 0 cs_Table_cell [] [] (fun _ _ _ => fl) (fun v => match v with | none => rt () | _ => fl) 21 0 [(108, .ref r0), (0, .int x1), (0, .int x2)] [] = (bn (rd r0 0) fun v1 =>
  (if x1 < v1 then
    bn (rd r0 3) fun v2 =>
    bn (rd r0 0) fun v3 =>
    bn (sr (siz shT (r0 + 1)) (r0 + 1) ((v2 * v3) + x1) x2) fun _ =>
    rt ()
  else
    rt ())) := rfl
theorem s_Table_cell_0 {d : Nat} (hcs : AllS L X d cs_Table_cell) (r0 : Nat) (x1 : Int32) (x2 : Int32) (t0 : okB 108 r0 = true) {o : Option Value × PH} {Q : (Unit) → MI → Prop} (q0 : ∀ v I, Q v I → o = (none, HH I)) (I : MI) (r : Unit) (I1 : MI) (h : F_Table_cell r0 x1 x2 I = some (r, I1)) (hq : Q r I1) : At L X (d + 1) 99 0 [(108, .ref r0), (0, .int x1), (0, .int x2)] [] I o := by
  refine wf_ok z_Table_cell hcs ?_ ?_ _ _ _ _ _ ⟨t0, trivial, trivial, trivial⟩ trivial (unm_refl _ _) ((congrFun (e_s_Table_cell_0 (L := L) (X := X) r0 x1 x2) I).trans h)
  · intro pc ls st I2 h1 h2 h3 h
    cases h
  · intro v I2 _ h
    split at h
    · cases h; exact q0 _ _ hq
    · cases h
theorem w_Table_cell {d : Nat} (hcs : AllS L X d cs_Table_cell) : Snd L X (d + 1) 99 3 (W_Table_cell F_Table_cell) := by
  refine ⟨_, z_Table_cell, rfl, fun β args k I r hty hlen h => ?_⟩
  unfold W_Table_cell at h
  split at h
  · rename_i t0 a0 u1 a1 u2 a2
    obtain ⟨hb0, h⟩ := mB_ok h
    have e0 := Nat.eq_of_beq_eq_true hb0
    have g0 : okB 108 a0 = true := e0 ▸ hty.1
    obtain ⟨v, I1, h1, h2⟩ := bn_some h
    refine ⟨gf_obj (c := 8) (by decide) g0, rfl, none, I1, trivial, ?_, h2⟩
    exact s_Table_cell_0 hcs a0 a1 a2 g0 (Q := fun w I => w = v ∧ I = I1) (fun w I q => by obtain ⟨rfl, rfl⟩ := q; rfl) I v I1 h1 ⟨rfl, rfl⟩
  · cases h
theorem S_Table_cell {d : Nat} (hd : 1 ≤ d) : Snd L X d 99 3 (W_Table_cell F_Table_cell) := by
  obtain ⟨e, rfl⟩ : ∃ e, d = e + 1 := ⟨d - 1, by omega⟩
  exact w_Table_cell trivial
set_option maxRecDepth 100000 in
theorem z_Table_isFull : pT[83]? = some (q_Table_isFull, 1, 1, 2, 8) := rfl
def W_Table_isFull (F : Nat → M Int32) : CSem := fun _ args k => match args with
  | [(t0, .ref a0)] => mB (Nat.beq t0 108) <| bn (F a0) fun v => k (some (0, .int v))
  | _ => fl
def cs_Table_isFull : List (Nat × Nat × CSem) := []
def F_Table_isFull (r0 : Nat) : M (Int32) :=
  bn (rd r0 3) fun v1 =>
  bn (rd r0 1) fun v2 =>
  (if v1 < v2 then
    bn (gdZ (0 : Int32)) fun _ => rt (0 : Int32)
  else
    bn (gdZ (1 : Int32)) fun _ => rt (1 : Int32))
set_option maxRecDepth 4000 in
theorem e_s_Table_isFull_0 (r0 : Nat) : wf (β := Int32) L X q_Table_isFull 2 cs_Table_isFull [] [] (fun _ _ _ => fl) (fun v => match v with | some (_, .int x) => rt x | _ => fl) 14 0 [(108, .ref r0)] [] = (bn (rd r0 3) fun v1 =>
  bn (rd r0 1) fun v2 =>
  (if v1 < v2 then
    bn (gdZ (0 : Int32)) fun _ => rt (0 : Int32)
  else
    bn (gdZ (1 : Int32)) fun _ => rt (1 : Int32))) := rfl
theorem s_Table_isFull_0 {d : Nat} (hcs : AllS L X d cs_Table_isFull) (r0 : Nat) (t0 : okB 108 r0 = true) {o : Option Value × PH} {Q : (Int32) → MI → Prop} (q0 : ∀ v I, Q v I → o = (some (.int v), HH I)) (I : MI) (r : Int32) (I1 : MI) (h : F_Table_isFull r0 I = some (r, I1)) (hq : Q r I1) : At L X (d + 1) 83 0 [(108, .ref r0)] [] I o := by
  refine wf_ok z_Table_isFull hcs ?_ ?_ _ _ _ _ _ ⟨t0, trivial⟩ trivial (unm_refl _ _) ((congrFun (e_s_Table_isFull_0 (L := L) (X := X) r0) I).trans h)
  · intro pc ls st I2 h1 h2 h3 h
    cases h
  · intro v I2 _ h
    split at h
    · cases h; exact q0 _ _ hq
    · cases h
theorem w_Table_isFull {d : Nat} (hcs : AllS L X d cs_Table_isFull) : Snd L X (d + 1) 83 1 (W_Table_isFull F_Table_isFull) := by
  refine ⟨_, z_Table_isFull, rfl, fun β args k I r hty hlen h => ?_⟩
  unfold W_Table_isFull at h
  split at h
  · rename_i t0 a0
    obtain ⟨hb0, h⟩ := mB_ok h
    have e0 := Nat.eq_of_beq_eq_true hb0
    have g0 : okB 108 a0 = true := e0 ▸ hty.1
    obtain ⟨v, I1, h1, h2⟩ := bn_some h
    refine ⟨gf_obj (c := 8) (by decide) g0, rfl, some (0, .int v), I1, trivial, ?_, h2⟩
    exact s_Table_isFull_0 hcs a0 g0 (Q := fun w I => w = v ∧ I = I1) (fun w I q => by obtain ⟨rfl, rfl⟩ := q; rfl) I v I1 h1 ⟨rfl, rfl⟩
  · cases h
theorem S_Table_isFull {d : Nat} (hd : 1 ≤ d) : Snd L X d 83 1 (W_Table_isFull F_Table_isFull) := by
  obtain ⟨e, rfl⟩ : ∃ e, d = e + 1 := ⟨d - 1, by omega⟩
  exact w_Table_isFull trivial
set_option maxRecDepth 100000 in
theorem z_Table_putWide : pT[98]? = some (q_Table_putWide, 6, 6, 1, 8) := rfl
def W_Table_putWide (F : Nat → Int32 → Int32 → Int32 → Int32 → Int32 → M Int32) : CSem := fun _ args k => match args with
  | [(t0, .ref a0), (_, .int a1), (_, .int a2), (_, .int a3), (_, .int a4), (_, .int a5)] => mB (Nat.beq t0 108) <| bn (F a0 a1 a2 a3 a4 a5) fun v => k (some (0, .int v))
  | _ => fl
def cs_Table_putWide (f_Table_cell : Nat → Int32 → Int32 → M Unit) (f_Table_isFull : Nat → M Int32) : List (Nat × Nat × CSem) := [(99, 3, W_Table_cell f_Table_cell), (83, 1, W_Table_isFull f_Table_isFull)]
def F_Table_putWide (r0 : Nat) (x1 : Int32) (x2 : Int32) (x3 : Int32) (x4 : Int32) (x5 : Int32) : M (Int32) :=
  bn (F_Table_isFull r0) fun v1 =>
  (if v1 = 0 then
    bn (F_Table_cell r0 (0 : Int32) x1) fun _ =>
    bn (F_Table_cell r0 (1 : Int32) x2) fun _ =>
    bn (F_Table_cell r0 (2 : Int32) x3) fun _ =>
    bn (F_Table_cell r0 (3 : Int32) x4) fun _ =>
    bn (F_Table_cell r0 (4 : Int32) x5) fun _ =>
    bn (rd r0 3) fun v2 =>
    bn (wr r0 3 (v2 + (1 : Int32))) fun _ =>
    bn (rd r0 3) fun v3 =>
    rt v3
  else
    rt (-1 : Int32))
set_option maxRecDepth 4000 in
theorem e_s_Table_putWide_0 (f_Table_cell : Nat → Int32 → Int32 → M Unit) (f_Table_isFull : Nat → M Int32) (r0 : Nat) (x1 : Int32) (x2 : Int32) (x3 : Int32) (x4 : Int32) (x5 : Int32) : wf (β := Int32) L X q_Table_putWide 1 (cs_Table_putWide f_Table_cell f_Table_isFull) [] [] (fun _ _ _ => fl) (fun v => match v with | some (_, .int x) => rt x | _ => fl) 39 0 [(108, .ref r0), (0, .int x1), (0, .int x2), (0, .int x3), (0, .int x4), (0, .int x5)] [] = (bn (f_Table_isFull r0) fun v1 =>
  (if v1 = 0 then
    bn (f_Table_cell r0 (0 : Int32) x1) fun _ =>
    bn (f_Table_cell r0 (1 : Int32) x2) fun _ =>
    bn (f_Table_cell r0 (2 : Int32) x3) fun _ =>
    bn (f_Table_cell r0 (3 : Int32) x4) fun _ =>
    bn (f_Table_cell r0 (4 : Int32) x5) fun _ =>
    bn (rd r0 3) fun v2 =>
    bn (wr r0 3 (v2 + (1 : Int32))) fun _ =>
    bn (rd r0 3) fun v3 =>
    rt v3
  else
    rt (-1 : Int32))) := rfl
theorem s_Table_putWide_0 {d : Nat} (hcs : AllS L X d (cs_Table_putWide F_Table_cell F_Table_isFull)) (r0 : Nat) (x1 : Int32) (x2 : Int32) (x3 : Int32) (x4 : Int32) (x5 : Int32) (t0 : okB 108 r0 = true) {o : Option Value × PH} {Q : (Int32) → MI → Prop} (q0 : ∀ v I, Q v I → o = (some (.int v), HH I)) (I : MI) (r : Int32) (I1 : MI) (h : F_Table_putWide r0 x1 x2 x3 x4 x5 I = some (r, I1)) (hq : Q r I1) : At L X (d + 1) 98 0 [(108, .ref r0), (0, .int x1), (0, .int x2), (0, .int x3), (0, .int x4), (0, .int x5)] [] I o := by
  refine wf_ok z_Table_putWide hcs ?_ ?_ _ _ _ _ _ ⟨t0, trivial, trivial, trivial, trivial, trivial, trivial⟩ trivial (unm_refl _ _) ((congrFun (e_s_Table_putWide_0 (L := L) (X := X) F_Table_cell F_Table_isFull r0 x1 x2 x3 x4 x5) I).trans h)
  · intro pc ls st I2 h1 h2 h3 h
    cases h
  · intro v I2 _ h
    split at h
    · cases h; exact q0 _ _ hq
    · cases h
theorem w_Table_putWide {d : Nat} (hcs : AllS L X d (cs_Table_putWide F_Table_cell F_Table_isFull)) : Snd L X (d + 1) 98 6 (W_Table_putWide F_Table_putWide) := by
  refine ⟨_, z_Table_putWide, rfl, fun β args k I r hty hlen h => ?_⟩
  unfold W_Table_putWide at h
  split at h
  · rename_i t0 a0 u1 a1 u2 a2 u3 a3 u4 a4 u5 a5
    obtain ⟨hb0, h⟩ := mB_ok h
    have e0 := Nat.eq_of_beq_eq_true hb0
    have g0 : okB 108 a0 = true := e0 ▸ hty.1
    obtain ⟨v, I1, h1, h2⟩ := bn_some h
    refine ⟨gf_obj (c := 8) (by decide) g0, rfl, some (0, .int v), I1, trivial, ?_, h2⟩
    exact s_Table_putWide_0 hcs a0 a1 a2 a3 a4 a5 g0 (Q := fun w I => w = v ∧ I = I1) (fun w I q => by obtain ⟨rfl, rfl⟩ := q; rfl) I v I1 h1 ⟨rfl, rfl⟩
  · cases h
theorem S_Table_putWide {d : Nat} (hd : 2 ≤ d) : Snd L X d 98 6 (W_Table_putWide F_Table_putWide) := by
  obtain ⟨e, rfl⟩ : ∃ e, d = e + 1 := ⟨d - 1, by omega⟩
  exact w_Table_putWide ⟨S_Table_cell (by omega), S_Table_isFull (by omega), trivial⟩
set_option maxRecDepth 100000 in
theorem z_Table_put : pT[106]? = some (q_Table_put, 4, 4, 1, 8) := rfl
def W_Table_put (F : Nat → Int32 → Int32 → Int32 → M Int32) : CSem := fun _ args k => match args with
  | [(t0, .ref a0), (_, .int a1), (_, .int a2), (_, .int a3)] => mB (Nat.beq t0 108) <| bn (F a0 a1 a2 a3) fun v => k (some (0, .int v))
  | _ => fl
def cs_Table_put (f_Table_putWide : Nat → Int32 → Int32 → Int32 → Int32 → Int32 → M Int32) : List (Nat × Nat × CSem) := [(98, 6, W_Table_putWide f_Table_putWide)]
def F_Table_put (r0 : Nat) (x1 : Int32) (x2 : Int32) (x3 : Int32) : M (Int32) :=
  bn (F_Table_putWide r0 x1 x2 x3 (0 : Int32) (0 : Int32)) fun v1 =>
  rt v1
set_option maxRecDepth 4000 in
theorem e_s_Table_put_0 (f_Table_putWide : Nat → Int32 → Int32 → Int32 → Int32 → Int32 → M Int32) (r0 : Nat) (x1 : Int32) (x2 : Int32) (x3 : Int32) : wf (β := Int32) L X q_Table_put 1 (cs_Table_put f_Table_putWide) [] [] (fun _ _ _ => fl) (fun v => match v with | some (_, .int x) => rt x | _ => fl) 13 0 [(108, .ref r0), (0, .int x1), (0, .int x2), (0, .int x3)] [] = (bn (f_Table_putWide r0 x1 x2 x3 (0 : Int32) (0 : Int32)) fun v1 =>
  rt v1) := rfl
theorem s_Table_put_0 {d : Nat} (hcs : AllS L X d (cs_Table_put F_Table_putWide)) (r0 : Nat) (x1 : Int32) (x2 : Int32) (x3 : Int32) (t0 : okB 108 r0 = true) {o : Option Value × PH} {Q : (Int32) → MI → Prop} (q0 : ∀ v I, Q v I → o = (some (.int v), HH I)) (I : MI) (r : Int32) (I1 : MI) (h : F_Table_put r0 x1 x2 x3 I = some (r, I1)) (hq : Q r I1) : At L X (d + 1) 106 0 [(108, .ref r0), (0, .int x1), (0, .int x2), (0, .int x3)] [] I o := by
  refine wf_ok z_Table_put hcs ?_ ?_ _ _ _ _ _ ⟨t0, trivial, trivial, trivial, trivial⟩ trivial (unm_refl _ _) ((congrFun (e_s_Table_put_0 (L := L) (X := X) F_Table_putWide r0 x1 x2 x3) I).trans h)
  · intro pc ls st I2 h1 h2 h3 h
    cases h
  · intro v I2 _ h
    split at h
    · cases h; exact q0 _ _ hq
    · cases h
theorem w_Table_put {d : Nat} (hcs : AllS L X d (cs_Table_put F_Table_putWide)) : Snd L X (d + 1) 106 4 (W_Table_put F_Table_put) := by
  refine ⟨_, z_Table_put, rfl, fun β args k I r hty hlen h => ?_⟩
  unfold W_Table_put at h
  split at h
  · rename_i t0 a0 u1 a1 u2 a2 u3 a3
    obtain ⟨hb0, h⟩ := mB_ok h
    have e0 := Nat.eq_of_beq_eq_true hb0
    have g0 : okB 108 a0 = true := e0 ▸ hty.1
    obtain ⟨v, I1, h1, h2⟩ := bn_some h
    refine ⟨gf_obj (c := 8) (by decide) g0, rfl, some (0, .int v), I1, trivial, ?_, h2⟩
    exact s_Table_put_0 hcs a0 a1 a2 a3 g0 (Q := fun w I => w = v ∧ I = I1) (fun w I q => by obtain ⟨rfl, rfl⟩ := q; rfl) I v I1 h1 ⟨rfl, rfl⟩
  · cases h
theorem S_Table_put {d : Nat} (hd : 3 ≤ d) : Snd L X d 106 4 (W_Table_put F_Table_put) := by
  obtain ⟨e, rfl⟩ : ∃ e, d = e + 1 := ⟨d - 1, by omega⟩
  exact w_Table_put ⟨S_Table_putWide (by omega), trivial⟩
set_option maxRecDepth 100000 in
theorem z_Table_wipe : pT[77]? = some (q_Table_wipe, 1, 1, 1, 8) := rfl
def W_Table_wipe (F : Nat → M Int32) : CSem := fun _ args k => match args with
  | [(t0, .ref a0)] => mB (Nat.beq t0 108) <| bn (F a0) fun v => k (some (0, .int v))
  | _ => fl
def cs_Table_wipe : List (Nat × Nat × CSem) := []
def F_Table_wipe (r0 : Nat) : M (Int32) :=
  bn (wr r0 3 (0 : Int32)) fun _ =>
  bn (rd r0 3) fun v1 =>
  rt v1
set_option maxRecDepth 4000 in
theorem e_s_Table_wipe_0 (r0 : Nat) : wf (β := Int32) L X q_Table_wipe 1 cs_Table_wipe [] [] (fun _ _ _ => fl) (fun v => match v with | some (_, .int x) => rt x | _ => fl) 11 0 [(108, .ref r0)] [] = (bn (wr r0 3 (0 : Int32)) fun _ =>
  bn (rd r0 3) fun v1 =>
  rt v1) := rfl
theorem s_Table_wipe_0 {d : Nat} (hcs : AllS L X d cs_Table_wipe) (r0 : Nat) (t0 : okB 108 r0 = true) {o : Option Value × PH} {Q : (Int32) → MI → Prop} (q0 : ∀ v I, Q v I → o = (some (.int v), HH I)) (I : MI) (r : Int32) (I1 : MI) (h : F_Table_wipe r0 I = some (r, I1)) (hq : Q r I1) : At L X (d + 1) 77 0 [(108, .ref r0)] [] I o := by
  refine wf_ok z_Table_wipe hcs ?_ ?_ _ _ _ _ _ ⟨t0, trivial⟩ trivial (unm_refl _ _) ((congrFun (e_s_Table_wipe_0 (L := L) (X := X) r0) I).trans h)
  · intro pc ls st I2 h1 h2 h3 h
    cases h
  · intro v I2 _ h
    split at h
    · cases h; exact q0 _ _ hq
    · cases h
theorem w_Table_wipe {d : Nat} (hcs : AllS L X d cs_Table_wipe) : Snd L X (d + 1) 77 1 (W_Table_wipe F_Table_wipe) := by
  refine ⟨_, z_Table_wipe, rfl, fun β args k I r hty hlen h => ?_⟩
  unfold W_Table_wipe at h
  split at h
  · rename_i t0 a0
    obtain ⟨hb0, h⟩ := mB_ok h
    have e0 := Nat.eq_of_beq_eq_true hb0
    have g0 : okB 108 a0 = true := e0 ▸ hty.1
    obtain ⟨v, I1, h1, h2⟩ := bn_some h
    refine ⟨gf_obj (c := 8) (by decide) g0, rfl, some (0, .int v), I1, trivial, ?_, h2⟩
    exact s_Table_wipe_0 hcs a0 g0 (Q := fun w I => w = v ∧ I = I1) (fun w I q => by obtain ⟨rfl, rfl⟩ := q; rfl) I v I1 h1 ⟨rfl, rfl⟩
  · cases h
theorem S_Table_wipe {d : Nat} (hd : 1 ≤ d) : Snd L X d 77 1 (W_Table_wipe F_Table_wipe) := by
  obtain ⟨e, rfl⟩ : ∃ e, d = e + 1 := ⟨d - 1, by omega⟩
  exact w_Table_wipe trivial
set_option maxRecDepth 100000 in
theorem z_A_bed : pT[163]? = some (q_A_bed, 3, 3, 1, 11) := rfl
def W_A_bed (F : Int32 → Int32 → M Int32) : CSem := fun _ args k => match args with
  | [(t0, .ref a0), (_, .int a1), (_, .int a2)] => mB (Nat.beq t0 111) <| bn (F a1 a2) fun v => k (some (0, .int v))
  | _ => fl
def cs_A_bed (f_A_within : Int32 → Int32 → Int32 → M Int32) (f_Table_put : Nat → Int32 → Int32 → Int32 → M Int32) (f_Table_wipe : Nat → M Int32) : List (Nat × Nat × CSem) := [(18, 3, W_A_within f_A_within), (106, 4, W_Table_put f_Table_put), (77, 1, W_Table_wipe f_Table_wipe)]
def F_A_bed (x1 : Int32) (x2 : Int32) : M (Int32) :=
  (if x1 = (-1 : Int32) then
    bn (F_Table_wipe 41) fun v4 =>
    rt v4
  else
    bn (F_A_within x1 (30 : Int32) (50 : Int32)) fun v1 =>
    (if v1 = 0 then
      rt (-1 : Int32)
    else
      bn (F_A_within x2 x1 (50 : Int32)) fun v2 =>
      (if v2 = 0 then
        rt (-1 : Int32)
      else
        bn (F_Table_put 41 x1 x2 (0 : Int32)) fun v3 =>
        rt v3)))
set_option maxRecDepth 4000 in
theorem e_s_A_bed_0 (f_A_within : Int32 → Int32 → Int32 → M Int32) (f_Table_put : Nat → Int32 → Int32 → Int32 → M Int32) (f_Table_wipe : Nat → M Int32) (x1 : Int32) (x2 : Int32) : wf (β := Int32) L X q_A_bed 1 (cs_A_bed f_A_within f_Table_put f_Table_wipe) [] [] (fun _ _ _ => fl) (fun v => match v with | some (_, .int x) => rt x | _ => fl) 33 0 [(111, .ref 0), (0, .int x1), (0, .int x2)] [] = ((if x1 = (-1 : Int32) then
    bn (f_Table_wipe 41) fun v4 =>
    rt v4
  else
    bn (f_A_within x1 (30 : Int32) (50 : Int32)) fun v1 =>
    (if v1 = 0 then
      rt (-1 : Int32)
    else
      bn (f_A_within x2 x1 (50 : Int32)) fun v2 =>
      (if v2 = 0 then
        rt (-1 : Int32)
      else
        bn (f_Table_put 41 x1 x2 (0 : Int32)) fun v3 =>
        rt v3)))) := rfl
theorem s_A_bed_0 {d : Nat} (hcs : AllS L X d (cs_A_bed F_A_within F_Table_put F_Table_wipe)) (x1 : Int32) (x2 : Int32) {o : Option Value × PH} {Q : (Int32) → MI → Prop} (q0 : ∀ v I, Q v I → o = (some (.int v), HH I)) (I : MI) (r : Int32) (I1 : MI) (h : F_A_bed x1 x2 I = some (r, I1)) (hq : Q r I1) : At L X (d + 1) 163 0 [(111, .ref 0), (0, .int x1), (0, .int x2)] [] I o := by
  refine wf_ok z_A_bed hcs ?_ ?_ _ _ _ _ _ ⟨rfl, trivial, trivial, trivial⟩ trivial (unm_refl _ _) ((congrFun (e_s_A_bed_0 (L := L) (X := X) F_A_within F_Table_put F_Table_wipe x1 x2) I).trans h)
  · intro pc ls st I2 h1 h2 h3 h
    cases h
  · intro v I2 _ h
    split at h
    · cases h; exact q0 _ _ hq
    · cases h
theorem w_A_bed {d : Nat} (hcs : AllS L X d (cs_A_bed F_A_within F_Table_put F_Table_wipe)) : Snd L X (d + 1) 163 3 (W_A_bed F_A_bed) := by
  refine ⟨_, z_A_bed, rfl, fun β args k I r hty hlen h => ?_⟩
  unfold W_A_bed at h
  split at h
  · rename_i t0 a0 u1 a1 u2 a2
    obtain ⟨hb0, h⟩ := mB_ok h
    have e0 := Nat.eq_of_beq_eq_true hb0
    have g0 : okB 111 a0 = true := e0 ▸ hty.1
    have e20 := one_111 g0
    subst e20
    obtain ⟨v, I1, h1, h2⟩ := bn_some h
    refine ⟨gf_obj (c := 11) (by decide) g0, rfl, some (0, .int v), I1, trivial, ?_, h2⟩
    exact s_A_bed_0 hcs a1 a2  (Q := fun w I => w = v ∧ I = I1) (fun w I q => by obtain ⟨rfl, rfl⟩ := q; rfl) I v I1 h1 ⟨rfl, rfl⟩
  · cases h
theorem S_A_bed {d : Nat} (hd : 4 ≤ d) : Snd L X d 163 3 (W_A_bed F_A_bed) := by
  obtain ⟨e, rfl⟩ : ∃ e, d = e + 1 := ⟨d - 1, by omega⟩
  exact w_A_bed ⟨S_A_within (by omega), S_Table_put (by omega), S_Table_wipe (by omega), trivial⟩
set_option maxRecDepth 100000 in
theorem z_Arrays_fill : pT[13]? = some (q_Arrays_fill, 2, 4, 0, 99) := rfl
def W_Arrays_fill (F : Nat → Int32 → M Unit) : CSem := fun _ args k => match args with
  | [(t0, .ref a0), (_, .int a1)] => mB (anyA t0) <| bn (F a0 a1) fun _ => k none
  | _ => fl
def cs_Arrays_fill : List (Nat × Nat × CSem) := []
def B_Arrays_fill_5 (r0 : Nat) (x1 : Int32) (x3 : Int32) (y : Int32) : M ((Int32) ⊕ (Unit)) :=
  (if y < x3 then
    bn (sr (siz shT r0) r0 y x1) fun _ =>
    rt (.inl (y + (1 : Int32)))
  else
    rt (.inr ()))
set_option maxRecDepth 4000 in
theorem e_b_Arrays_fill_5 (r0 : Nat) (x1 : Int32) (x3 : Int32) (y : Int32) : wf (β := (Int32) ⊕ (Unit)) L X q_Arrays_fill 0 cs_Arrays_fill [2] [5] (fun pc ls st => mC (Nat.beq pc 5) (mN st <| gI ls 2 fun a2 => rt (.inl a2)) (fl)) (fun v => match v with | none => rt (.inr ()) | _ => fl) 20 5 [(9999, .ref r0), (0, .int x1), (0, .int y), (0, .int x3)] [] = ((if y < x3 then
    bn (sr (siz shT r0) r0 y x1) fun _ =>
    rt (.inl (y + (1 : Int32)))
  else
    rt (.inr ()))) := rfl
theorem b_Arrays_fill_5 {d : Nat} (hcs : AllS L X d cs_Arrays_fill) (r0 : Nat) (x1 : Int32) (x3 : Int32) (t0 : okB 9999 r0 = true) {o : Option Value × PH} {Q : ((Int32) ⊕ (Unit)) → MI → Prop} (qb : ∀ y I, Q (.inl y) I → At L X (d + 1) 13 5 [(9999, .ref r0), (0, .int x1), (0, .int y), (0, .int x3)] [] I o) (qr : ∀ v I, Q (.inr v) I → o = (none, HH I)) (y : Int32) (I : MI) (r : (Int32) ⊕ (Unit)) (I1 : MI) (h : B_Arrays_fill_5 r0 x1 x3 y I = some (r, I1)) (hq : Q r I1) : At L X (d + 1) 13 5 [(9999, .ref r0), (0, .int x1), (0, .int y), (0, .int x3)] [] I o := by
  refine wf_ok z_Arrays_fill hcs ?_ ?_ _ _ _ _ _ ⟨t0, trivial, trivial, trivial, trivial⟩ trivial (unm_refl _ _) ((congrFun (e_b_Arrays_fill_5 (L := L) (X := X) r0 x1 x3 y) I).trans h)
  · intro pc ls st I2 h1 h2 h3 h
    rcases mC_ok h with ⟨hb, h⟩ | ⟨_, h⟩
    · have e := Nat.eq_of_beq_eq_true hb
      subst e
      obtain ⟨hst, h⟩ := mN_ok h
      subst hst
      obtain ⟨a2, n2, h⟩ := gI_ok h
      refine at_leaf (ls2 := [(9999, .ref r0), (0, .int x1), (0, .int a2), (0, .int x3)]) h3.1 ⟨Or.inr ⟨_, (h3.2 0 rfl).trans rfl⟩, Or.inr ⟨_, (h3.2 1 rfl).trans rfl⟩, Or.inr n2, Or.inr ⟨_, (h3.2 3 rfl).trans rfl⟩, trivial⟩ ?_
      cases h; exact qb _ _ hq
    cases h
  · intro v I2 _ h
    split at h
    · cases h; exact qr _ _ hq
    · cases h
def K_Arrays_fill_5 (r0 : Nat) (x1 : Int32) (x2 : Int32) (x3 : Int32) : M (Unit) :=
  lp (B_Arrays_fill_5 r0 x1 x3) FU x2
theorem s_Arrays_fill_5 {d : Nat} (hcs : AllS L X d cs_Arrays_fill) (r0 : Nat) (x1 : Int32) (x2 : Int32) (x3 : Int32) (t0 : okB 9999 r0 = true) {o : Option Value × PH} {Q : (Unit) → MI → Prop} (q0 : ∀ v I, Q v I → o = (none, HH I)) (I : MI) (r : Unit) (I1 : MI) (h : K_Arrays_fill_5 r0 x1 x2 x3 I = some (r, I1)) (hq : Q r I1) : At L X (d + 1) 13 5 [(9999, .ref r0), (0, .int x1), (0, .int x2), (0, .int x3)] [] I o := by
  unfold K_Arrays_fill_5 at h
  have w0 := fun w => at_lp (body := B_Arrays_fill_5 r0 x1 x3) (P := (fun (y : Int32) I => At L X (d + 1) 13 5 [(9999, .ref r0), (0, .int x1), (0, .int y), (0, .int x3)] [] I o)) (Q := (fun (e : Unit) I => Q e I)) w FU x2 I r I1 h hq
  refine w0 ?_
  intro y I r I1 h hq
  exact b_Arrays_fill_5 hcs r0 x1 x3 t0 (Q := SQ (fun (y : Int32) I => At L X (d + 1) 13 5 [(9999, .ref r0), (0, .int x1), (0, .int y), (0, .int x3)] [] I o) (fun (e : Unit) I => Q e I)) (fun _ _ w => w) q0 y I r I1 h hq
def F_Arrays_fill (r0 : Nat) (x1 : Int32) : M (Unit) :=
  K_Arrays_fill_5 r0 x1 (0 : Int32) (Int32.ofNat (siz shT r0))
set_option maxRecDepth 4000 in
theorem e_s_Arrays_fill_0 (k_5 : Nat → Int32 → Int32 → Int32 → M (Unit)) (r0 : Nat) (x1 : Int32) : wf (β := Unit) L X q_Arrays_fill 0 cs_Arrays_fill [2, 3] [5] (fun pc ls st => mC (Nat.beq pc 5) (mN st <| gI ls 2 fun a2 => gI ls 3 fun a3 => k_5 r0 x1 a2 a3) (fl)) (fun v => match v with | none => rt () | _ => fl) 20 0 [(9999, .ref r0), (0, .int x1), (0, dV), (0, dV)] [] = (k_5 r0 x1 (0 : Int32) (Int32.ofNat (siz shT r0))) := rfl
theorem s_Arrays_fill_0 {d : Nat} (hcs : AllS L X d cs_Arrays_fill) (r0 : Nat) (x1 : Int32) (t0 : okB 9999 r0 = true) {o : Option Value × PH} {Q : (Unit) → MI → Prop} (q0 : ∀ v I, Q v I → o = (none, HH I)) (I : MI) (r : Unit) (I1 : MI) (h : F_Arrays_fill r0 x1 I = some (r, I1)) (hq : Q r I1) : At L X (d + 1) 13 0 [(9999, .ref r0), (0, .int x1), (0, dV), (0, dV)] [] I o := by
  refine wf_ok z_Arrays_fill hcs ?_ ?_ _ _ _ _ _ ⟨t0, trivial, trivial, trivial, trivial⟩ trivial (unm_refl _ _) ((congrFun (e_s_Arrays_fill_0 (L := L) (X := X) K_Arrays_fill_5 r0 x1) I).trans h)
  · intro pc ls st I2 h1 h2 h3 h
    rcases mC_ok h with ⟨hb, h⟩ | ⟨_, h⟩
    · have e := Nat.eq_of_beq_eq_true hb
      subst e
      obtain ⟨hst, h⟩ := mN_ok h
      subst hst
      obtain ⟨a2, n2, h⟩ := gI_ok h
      obtain ⟨a3, n3, h⟩ := gI_ok h
      refine at_leaf (ls2 := [(9999, .ref r0), (0, .int x1), (0, .int a2), (0, .int a3)]) h3.1 ⟨Or.inr ⟨_, (h3.2 0 rfl).trans rfl⟩, Or.inr ⟨_, (h3.2 1 rfl).trans rfl⟩, Or.inr n2, Or.inr n3, trivial⟩ ?_
      exact s_Arrays_fill_5 hcs r0 x1 a2 a3 t0 q0 _ _ _ h hq
    cases h
  · intro v I2 _ h
    split at h
    · cases h; exact q0 _ _ hq
    · cases h
theorem w_Arrays_fill {d : Nat} (hcs : AllS L X d cs_Arrays_fill) : Snd L X (d + 1) 13 2 (W_Arrays_fill F_Arrays_fill) := by
  refine ⟨_, z_Arrays_fill, rfl, fun β args k I r hty hlen h => ?_⟩
  unfold W_Arrays_fill at h
  split at h
  · rename_i t0 a0 u1 a1
    obtain ⟨hb0, h⟩ := mB_ok h
    have g0 : okB 9999 a0 = true := okB_any hty.1 hb0
    obtain ⟨v, I1, h1, h2⟩ := bn_some h
    refine ⟨rfl, rfl, none, I1, trivial, ?_, h2⟩
    exact s_Arrays_fill_0 hcs a0 a1 g0 (Q := fun w I => w = v ∧ I = I1) (fun w I q => by obtain ⟨rfl, rfl⟩ := q; rfl) I v I1 h1 ⟨rfl, rfl⟩
  · cases h
theorem S_Arrays_fill {d : Nat} (hd : 1 ≤ d) : Snd L X d 13 2 (W_Arrays_fill F_Arrays_fill) := by
  obtain ⟨e, rfl⟩ : ∃ e, d = e + 1 := ⟨d - 1, by omega⟩
  exact w_Arrays_fill trivial
set_option maxRecDepth 100000 in
theorem z_Matching_finds : pT[129]? = some (q_Matching_finds, 3, 5, 2, 3) := rfl
def W_Matching_finds (F : Nat → Int32 → Int32 → M Int32) : CSem := fun _ args k => match args with
  | [(t0, .ref a0), (_, .int a1), (_, .int a2)] => mB (Nat.beq t0 103) <| bn (F a0 a1 a2) fun v => k (some (0, .int v))
  | _ => fl
set_option maxRecDepth 100000 in
theorem z_Matching_comesFree : pT[130]? = some (q_Matching_comesFree, 3, 3, 2, 3) := rfl
def W_Matching_comesFree (F : Nat → Int32 → Int32 → M Int32) : CSem := fun _ args k => match args with
  | [(t0, .ref a0), (_, .int a1), (_, .int a2)] => mB (Nat.beq t0 103) <| bn (F a0 a1 a2) fun v => k (some (0, .int v))
  | _ => fl
def cs_Matching_finds (f_A_within : Int32 → Int32 → Int32 → M Int32) (f_Matching_comesFree : Nat → Int32 → Int32 → M Int32) : List (Nat × Nat × CSem) := [(18, 3, W_A_within f_A_within), (130, 3, W_Matching_comesFree f_Matching_comesFree)]
def B_Matching_finds_20 (f_Matching_comesFree : Nat → Int32 → Int32 → M Int32) (r0 : Nat) (x1 : Int32) (x2 : Int32) (y : Int32) : M ((Int32) ⊕ (Int32)) :=
  (if y < (10 : Int32) then
    bn (ld 10 (r0 + 1) x1) fun v1 =>
    bn (rd r0 2) fun v2 =>
    (if ((v1 &&& (v2 ^^^ (-1 : Int32))) &&& ((1 : Int32) <<< (y &&& 31))) = 0 then
      rt (.inl (y + (1 : Int32)))
    else
      bn (rd r0 2) fun v3 =>
      bn (wr r0 2 (v3 ||| ((1 : Int32) <<< (y &&& 31)))) fun _ =>
      bn (f_Matching_comesFree r0 y x2) fun v4 =>
      (if v4 = 0 then
        rt (.inl (y + (1 : Int32)))
      else
        bn (sr 10 (r0 + 2) y x1) fun _ =>
        bn (gdZ (1 : Int32)) fun _ => rt (.inr (1 : Int32))))
  else
    bn (gdZ (0 : Int32)) fun _ => rt (.inr (0 : Int32)))
set_option maxRecDepth 4000 in
theorem e_b_Matching_finds_20 (f_A_within : Int32 → Int32 → Int32 → M Int32) (f_Matching_comesFree : Nat → Int32 → Int32 → M Int32) (r0 : Nat) (x1 : Int32) (x2 : Int32) (y : Int32) : wf (β := (Int32) ⊕ (Int32)) L X q_Matching_finds 2 (cs_Matching_finds f_A_within f_Matching_comesFree) [3, 4] [20] (fun pc ls st => mC (Nat.beq pc 20) (mN st <| gI ls 3 fun a3 => gD ls 4 <| rt (.inl a3)) (fl)) (fun v => match v with | some (_, .int x) => rt (.inr x) | _ => fl) 58 20 [(103, .ref r0), (0, .int x1), (0, .int x2), (0, .int y), (0, dV)] [] = ((if y < (10 : Int32) then
    bn (ld 10 (r0 + 1) x1) fun v1 =>
    bn (rd r0 2) fun v2 =>
    (if ((v1 &&& (v2 ^^^ (-1 : Int32))) &&& ((1 : Int32) <<< (y &&& 31))) = 0 then
      rt (.inl (y + (1 : Int32)))
    else
      bn (rd r0 2) fun v3 =>
      bn (wr r0 2 (v3 ||| ((1 : Int32) <<< (y &&& 31)))) fun _ =>
      bn (f_Matching_comesFree r0 y x2) fun v4 =>
      (if v4 = 0 then
        rt (.inl (y + (1 : Int32)))
      else
        bn (sr 10 (r0 + 2) y x1) fun _ =>
        bn (gdZ (1 : Int32)) fun _ => rt (.inr (1 : Int32))))
  else
    bn (gdZ (0 : Int32)) fun _ => rt (.inr (0 : Int32)))) := rfl
theorem b_Matching_finds_20 {d : Nat} (f_Matching_comesFree : Nat → Int32 → Int32 → M Int32) (hcs : AllS L X d (cs_Matching_finds F_A_within f_Matching_comesFree)) (r0 : Nat) (x1 : Int32) (x2 : Int32) (t0 : okB 103 r0 = true) {o : Option Value × PH} {Q : ((Int32) ⊕ (Int32)) → MI → Prop} (qb : ∀ y I, Q (.inl y) I → At L X (d + 1) 129 20 [(103, .ref r0), (0, .int x1), (0, .int x2), (0, .int y), (0, dV)] [] I o) (qr : ∀ v I, Q (.inr v) I → o = (some (.int v), HH I)) (y : Int32) (I : MI) (r : (Int32) ⊕ (Int32)) (I1 : MI) (h : B_Matching_finds_20 f_Matching_comesFree r0 x1 x2 y I = some (r, I1)) (hq : Q r I1) : At L X (d + 1) 129 20 [(103, .ref r0), (0, .int x1), (0, .int x2), (0, .int y), (0, dV)] [] I o := by
  refine wf_ok z_Matching_finds hcs ?_ ?_ _ _ _ _ _ ⟨t0, trivial, trivial, trivial, trivial, trivial⟩ trivial (unm_refl _ _) ((congrFun (e_b_Matching_finds_20 (L := L) (X := X) F_A_within f_Matching_comesFree r0 x1 x2 y) I).trans h)
  · intro pc ls st I2 h1 h2 h3 h
    rcases mC_ok h with ⟨hb, h⟩ | ⟨_, h⟩
    · have e := Nat.eq_of_beq_eq_true hb
      subst e
      obtain ⟨hst, h⟩ := mN_ok h
      subst hst
      obtain ⟨a3, n3, h⟩ := gI_ok h
      obtain ⟨n4, h⟩ := gD_ok h
      refine at_leaf (ls2 := [(103, .ref r0), (0, .int x1), (0, .int x2), (0, .int a3), (0, dV)]) h3.1 ⟨Or.inr ⟨_, (h3.2 0 rfl).trans rfl⟩, Or.inr ⟨_, (h3.2 1 rfl).trans rfl⟩, Or.inr ⟨_, (h3.2 2 rfl).trans rfl⟩, Or.inr n3, Or.inl ⟨rfl, n4⟩, trivial⟩ ?_
      cases h; exact qb _ _ hq
    cases h
  · intro v I2 _ h
    split at h
    · cases h; exact qr _ _ hq
    · cases h
def K_Matching_finds_20 (f_Matching_comesFree : Nat → Int32 → Int32 → M Int32) (r0 : Nat) (x1 : Int32) (x2 : Int32) (x3 : Int32) : M (Int32) :=
  lp (B_Matching_finds_20 f_Matching_comesFree r0 x1 x2) FU x3
theorem s_Matching_finds_20 {d : Nat} (f_Matching_comesFree : Nat → Int32 → Int32 → M Int32) (hcs : AllS L X d (cs_Matching_finds F_A_within f_Matching_comesFree)) (r0 : Nat) (x1 : Int32) (x2 : Int32) (x3 : Int32) (t0 : okB 103 r0 = true) {o : Option Value × PH} {Q : (Int32) → MI → Prop} (q0 : ∀ v I, Q v I → o = (some (.int v), HH I)) (I : MI) (r : Int32) (I1 : MI) (h : K_Matching_finds_20 f_Matching_comesFree r0 x1 x2 x3 I = some (r, I1)) (hq : Q r I1) : At L X (d + 1) 129 20 [(103, .ref r0), (0, .int x1), (0, .int x2), (0, .int x3), (0, dV)] [] I o := by
  unfold K_Matching_finds_20 at h
  have w0 := fun w => at_lp (body := B_Matching_finds_20 f_Matching_comesFree r0 x1 x2) (P := (fun (y : Int32) I => At L X (d + 1) 129 20 [(103, .ref r0), (0, .int x1), (0, .int x2), (0, .int y), (0, dV)] [] I o)) (Q := (fun (e : Int32) I => Q e I)) w FU x3 I r I1 h hq
  refine w0 ?_
  intro y I r I1 h hq
  exact b_Matching_finds_20 f_Matching_comesFree hcs r0 x1 x2 t0 (Q := SQ (fun (y : Int32) I => At L X (d + 1) 129 20 [(103, .ref r0), (0, .int x1), (0, .int x2), (0, .int y), (0, dV)] [] I o) (fun (e : Int32) I => Q e I)) (fun _ _ w => w) q0 y I r I1 h hq
def K_Matching_finds_0 (f_Matching_comesFree : Nat → Int32 → Int32 → M Int32) (r0 : Nat) (x1 : Int32) (x2 : Int32) : M (Int32) :=
  (if (10 : Int32) < x2 then
    bn (gdZ (0 : Int32)) fun _ => rt (0 : Int32)
  else
    bn (F_A_within x1 (0 : Int32) (9 : Int32)) fun v1 =>
    (if v1 = 0 then
      bn (gdZ (0 : Int32)) fun _ => rt (0 : Int32)
    else
      K_Matching_finds_20 f_Matching_comesFree r0 x1 x2 (0 : Int32)))
set_option maxRecDepth 4000 in
theorem e_s_Matching_finds_0 (f_A_within : Int32 → Int32 → Int32 → M Int32) (f_Matching_comesFree : Nat → Int32 → Int32 → M Int32) (k_20 : Nat → Int32 → Int32 → Int32 → M (Int32)) (r0 : Nat) (x1 : Int32) (x2 : Int32) : wf (β := Int32) L X q_Matching_finds 2 (cs_Matching_finds f_A_within f_Matching_comesFree) [3] [20] (fun pc ls st => mC (Nat.beq pc 20) (mN st <| gI ls 3 fun a3 => gD ls 4 <| k_20 r0 x1 x2 a3) (fl)) (fun v => match v with | some (_, .int x) => rt x | _ => fl) 58 0 [(103, .ref r0), (0, .int x1), (0, .int x2), (0, dV), (0, dV)] [] = ((if (10 : Int32) < x2 then
    bn (gdZ (0 : Int32)) fun _ => rt (0 : Int32)
  else
    bn (f_A_within x1 (0 : Int32) (9 : Int32)) fun v1 =>
    (if v1 = 0 then
      bn (gdZ (0 : Int32)) fun _ => rt (0 : Int32)
    else
      k_20 r0 x1 x2 (0 : Int32)))) := rfl
theorem s_Matching_finds_0 {d : Nat} (f_Matching_comesFree : Nat → Int32 → Int32 → M Int32) (hcs : AllS L X d (cs_Matching_finds F_A_within f_Matching_comesFree)) (r0 : Nat) (x1 : Int32) (x2 : Int32) (t0 : okB 103 r0 = true) {o : Option Value × PH} {Q : (Int32) → MI → Prop} (q0 : ∀ v I, Q v I → o = (some (.int v), HH I)) (I : MI) (r : Int32) (I1 : MI) (h : K_Matching_finds_0 f_Matching_comesFree r0 x1 x2 I = some (r, I1)) (hq : Q r I1) : At L X (d + 1) 129 0 [(103, .ref r0), (0, .int x1), (0, .int x2), (0, dV), (0, dV)] [] I o := by
  refine wf_ok z_Matching_finds hcs ?_ ?_ _ _ _ _ _ ⟨t0, trivial, trivial, trivial, trivial, trivial⟩ trivial (unm_refl _ _) ((congrFun (e_s_Matching_finds_0 (L := L) (X := X) F_A_within f_Matching_comesFree (K_Matching_finds_20 f_Matching_comesFree) r0 x1 x2) I).trans h)
  · intro pc ls st I2 h1 h2 h3 h
    rcases mC_ok h with ⟨hb, h⟩ | ⟨_, h⟩
    · have e := Nat.eq_of_beq_eq_true hb
      subst e
      obtain ⟨hst, h⟩ := mN_ok h
      subst hst
      obtain ⟨a3, n3, h⟩ := gI_ok h
      obtain ⟨n4, h⟩ := gD_ok h
      refine at_leaf (ls2 := [(103, .ref r0), (0, .int x1), (0, .int x2), (0, .int a3), (0, dV)]) h3.1 ⟨Or.inr ⟨_, (h3.2 0 rfl).trans rfl⟩, Or.inr ⟨_, (h3.2 1 rfl).trans rfl⟩, Or.inr ⟨_, (h3.2 2 rfl).trans rfl⟩, Or.inr n3, Or.inl ⟨rfl, n4⟩, trivial⟩ ?_
      exact s_Matching_finds_20 f_Matching_comesFree hcs r0 x1 x2 a3 t0 q0 _ _ _ h hq
    cases h
  · intro v I2 _ h
    split at h
    · cases h; exact q0 _ _ hq
    · cases h
theorem w_Matching_finds {d : Nat} (f_Matching_comesFree : Nat → Int32 → Int32 → M Int32) (hcs : AllS L X d (cs_Matching_finds F_A_within f_Matching_comesFree)) : Snd L X (d + 1) 129 3 (W_Matching_finds (K_Matching_finds_0 f_Matching_comesFree)) := by
  refine ⟨_, z_Matching_finds, rfl, fun β args k I r hty hlen h => ?_⟩
  unfold W_Matching_finds at h
  split at h
  · rename_i t0 a0 u1 a1 u2 a2
    obtain ⟨hb0, h⟩ := mB_ok h
    have e0 := Nat.eq_of_beq_eq_true hb0
    have g0 : okB 103 a0 = true := e0 ▸ hty.1
    obtain ⟨v, I1, h1, h2⟩ := bn_some h
    refine ⟨gf_obj (c := 3) (by decide) g0, rfl, some (0, .int v), I1, trivial, ?_, h2⟩
    exact s_Matching_finds_0 f_Matching_comesFree hcs a0 a1 a2 g0 (Q := fun w I => w = v ∧ I = I1) (fun w I q => by obtain ⟨rfl, rfl⟩ := q; rfl) I v I1 h1 ⟨rfl, rfl⟩
  · cases h
def cs_Matching_comesFree (f_Matching_finds : Nat → Int32 → Int32 → M Int32) : List (Nat × Nat × CSem) := [(129, 3, W_Matching_finds f_Matching_finds)]
def K_Matching_comesFree_0 (f_Matching_finds : Nat → Int32 → Int32 → M Int32) (r0 : Nat) (x1 : Int32) (x2 : Int32) : M (Int32) :=
  bn (ld 10 (r0 + 2) x1) fun v1 =>
  (if v1 = (-1 : Int32) then
    bn (gdZ (1 : Int32)) fun _ => rt (1 : Int32)
  else
    bn (ld 10 (r0 + 2) x1) fun v2 =>
    bn (f_Matching_finds r0 v2 (x2 + (1 : Int32))) fun v3 =>
    (if v3 = 0 then
      bn (gdZ (0 : Int32)) fun _ => rt (0 : Int32)
    else
      bn (gdZ (1 : Int32)) fun _ => rt (1 : Int32)))
set_option maxRecDepth 4000 in
theorem e_s_Matching_comesFree_0 (f_Matching_finds : Nat → Int32 → Int32 → M Int32) (r0 : Nat) (x1 : Int32) (x2 : Int32) : wf (β := Int32) L X q_Matching_comesFree 2 (cs_Matching_comesFree f_Matching_finds) [] [] (fun _ _ _ => fl) (fun v => match v with | some (_, .int x) => rt x | _ => fl) 25 0 [(103, .ref r0), (0, .int x1), (0, .int x2)] [] = (bn (ld 10 (r0 + 2) x1) fun v1 =>
  (if v1 = (-1 : Int32) then
    bn (gdZ (1 : Int32)) fun _ => rt (1 : Int32)
  else
    bn (ld 10 (r0 + 2) x1) fun v2 =>
    bn (f_Matching_finds r0 v2 (x2 + (1 : Int32))) fun v3 =>
    (if v3 = 0 then
      bn (gdZ (0 : Int32)) fun _ => rt (0 : Int32)
    else
      bn (gdZ (1 : Int32)) fun _ => rt (1 : Int32)))) := rfl
theorem s_Matching_comesFree_0 {d : Nat} (f_Matching_finds : Nat → Int32 → Int32 → M Int32) (hcs : AllS L X d (cs_Matching_comesFree f_Matching_finds)) (r0 : Nat) (x1 : Int32) (x2 : Int32) (t0 : okB 103 r0 = true) {o : Option Value × PH} {Q : (Int32) → MI → Prop} (q0 : ∀ v I, Q v I → o = (some (.int v), HH I)) (I : MI) (r : Int32) (I1 : MI) (h : K_Matching_comesFree_0 f_Matching_finds r0 x1 x2 I = some (r, I1)) (hq : Q r I1) : At L X (d + 1) 130 0 [(103, .ref r0), (0, .int x1), (0, .int x2)] [] I o := by
  refine wf_ok z_Matching_comesFree hcs ?_ ?_ _ _ _ _ _ ⟨t0, trivial, trivial, trivial⟩ trivial (unm_refl _ _) ((congrFun (e_s_Matching_comesFree_0 (L := L) (X := X) f_Matching_finds r0 x1 x2) I).trans h)
  · intro pc ls st I2 h1 h2 h3 h
    cases h
  · intro v I2 _ h
    split at h
    · cases h; exact q0 _ _ hq
    · cases h
theorem w_Matching_comesFree {d : Nat} (f_Matching_finds : Nat → Int32 → Int32 → M Int32) (hcs : AllS L X d (cs_Matching_comesFree f_Matching_finds)) : Snd L X (d + 1) 130 3 (W_Matching_comesFree (K_Matching_comesFree_0 f_Matching_finds)) := by
  refine ⟨_, z_Matching_comesFree, rfl, fun β args k I r hty hlen h => ?_⟩
  unfold W_Matching_comesFree at h
  split at h
  · rename_i t0 a0 u1 a1 u2 a2
    obtain ⟨hb0, h⟩ := mB_ok h
    have e0 := Nat.eq_of_beq_eq_true hb0
    have g0 : okB 103 a0 = true := e0 ▸ hty.1
    obtain ⟨v, I1, h1, h2⟩ := bn_some h
    refine ⟨gf_obj (c := 3) (by decide) g0, rfl, some (0, .int v), I1, trivial, ?_, h2⟩
    exact s_Matching_comesFree_0 f_Matching_finds hcs a0 a1 a2 g0 (Q := fun w I => w = v ∧ I = I1) (fun w I q => by obtain ⟨rfl, rfl⟩ := q; rfl) I v I1 h1 ⟨rfl, rfl⟩
  · cases h
def G_Matching_finds : Nat → Nat → Int32 → Int32 → M Int32
  | 0 => fun _ _ _ => fl
  | n + 1 => K_Matching_finds_0 (K_Matching_comesFree_0 (G_Matching_finds n))
def F_Matching_finds : Nat → Int32 → Int32 → M Int32 := G_Matching_finds 14
theorem SG_Matching_finds : ∀ (n d : Nat), 2 * n + 2 ≤ d → Snd L X d 129 3 (W_Matching_finds (G_Matching_finds n)) := by
  intro n
  induction n with
  | zero =>
    intro d _
    refine ⟨_, z_Matching_finds, rfl, fun β args k I r hty hlen h => ?_⟩
    unfold W_Matching_finds at h
    split at h
    · obtain ⟨_, h⟩ := mB_ok h
      obtain ⟨v, I1, h1, _⟩ := bn_some h
      cases h1
    · cases h
  | succ n ih =>
    intro d hd
    obtain ⟨e, rfl⟩ : ∃ e, d = e + 2 := ⟨d - 2, by omega⟩
    exact w_Matching_finds (K_Matching_comesFree_0 (G_Matching_finds n)) ⟨S_A_within (by omega), w_Matching_comesFree (G_Matching_finds n) ⟨ih e (by omega), trivial⟩, trivial⟩
theorem S_Matching_finds {d : Nat} (hd : 30 ≤ d) : Snd L X d 129 3 (W_Matching_finds F_Matching_finds) := SG_Matching_finds 14 d (by omega)
set_option maxRecDepth 100000 in
theorem z_Matching_most : pT[128]? = some (q_Matching_most, 4, 6, 1, 3) := rfl
def W_Matching_most (F : Nat → Int32 → Int32 → Int32 → M Int32) : CSem := fun _ args k => match args with
  | [(t0, .ref a0), (_, .int a1), (_, .int a2), (_, .int a3)] => mB (Nat.beq t0 103) <| bn (F a0 a1 a2 a3) fun v => k (some (0, .int v))
  | _ => fl
def cs_Matching_most (f_Arrays_fill : Nat → Int32 → M Unit) (f_Matching_finds : Nat → Int32 → Int32 → M Int32) : List (Nat × Nat × CSem) := [(13, 2, W_Arrays_fill f_Arrays_fill), (129, 3, W_Matching_finds f_Matching_finds)]
def B_Matching_most_14 (r0 : Nat) (x2 : Int32) (x3 : Int32) (y : Int32 × Int32) : M ((Int32 × Int32) ⊕ (Int32)) :=
  (if y.2 < x2 then
    (if y.2 < (10 : Int32) then
      bn (wr r0 2 x3) fun _ =>
      bn (F_Matching_finds r0 y.2 (0 : Int32)) fun v1 =>
      (if v1 = 0 then
        rt (.inl ((y.1 + (0 : Int32)), (y.2 + (1 : Int32))))
      else
        rt (.inl ((y.1 + (1 : Int32)), (y.2 + (1 : Int32)))))
    else
      rt (.inr y.1))
  else
    rt (.inr y.1))
set_option maxRecDepth 4000 in
theorem e_b_Matching_most_14 (f_Arrays_fill : Nat → Int32 → M Unit) (f_Matching_finds : Nat → Int32 → Int32 → M Int32) (r0 : Nat) (x2 : Int32) (x3 : Int32) (y : Int32 × Int32) : wf (β := (Int32 × Int32) ⊕ (Int32)) L X q_Matching_most 1 (cs_Matching_most f_Arrays_fill f_Matching_finds) [4, 5] [14] (fun pc ls st => mC (Nat.beq pc 14) (mN st <| gD ls 1 <| gI ls 4 fun a4 => gI ls 5 fun a5 => rt (.inl (a4, a5))) (fl)) (fun v => match v with | some (_, .int x) => rt (.inr x) | _ => fl) 37 14 [(103, .ref r0), (0, dV), (0, .int x2), (0, .int x3), (0, .int y.1), (0, .int y.2)] [] = ((if y.2 < x2 then
    (if y.2 < (10 : Int32) then
      bn (wr r0 2 x3) fun _ =>
      bn (f_Matching_finds r0 y.2 (0 : Int32)) fun v1 =>
      (if v1 = 0 then
        rt (.inl ((y.1 + (0 : Int32)), (y.2 + (1 : Int32))))
      else
        rt (.inl ((y.1 + (1 : Int32)), (y.2 + (1 : Int32)))))
    else
      rt (.inr y.1))
  else
    rt (.inr y.1))) := rfl
theorem b_Matching_most_14 {d : Nat} (hcs : AllS L X d (cs_Matching_most F_Arrays_fill F_Matching_finds)) (r0 : Nat) (x2 : Int32) (x3 : Int32) (t0 : okB 103 r0 = true) {o : Option Value × PH} {Q : ((Int32 × Int32) ⊕ (Int32)) → MI → Prop} (qb : ∀ y I, Q (.inl y) I → At L X (d + 1) 128 14 [(103, .ref r0), (0, dV), (0, .int x2), (0, .int x3), (0, .int y.1), (0, .int y.2)] [] I o) (qr : ∀ v I, Q (.inr v) I → o = (some (.int v), HH I)) (y : Int32 × Int32) (I : MI) (r : (Int32 × Int32) ⊕ (Int32)) (I1 : MI) (h : B_Matching_most_14 r0 x2 x3 y I = some (r, I1)) (hq : Q r I1) : At L X (d + 1) 128 14 [(103, .ref r0), (0, dV), (0, .int x2), (0, .int x3), (0, .int y.1), (0, .int y.2)] [] I o := by
  refine wf_ok z_Matching_most hcs ?_ ?_ _ _ _ _ _ ⟨t0, trivial, trivial, trivial, trivial, trivial, trivial⟩ trivial (unm_refl _ _) ((congrFun (e_b_Matching_most_14 (L := L) (X := X) F_Arrays_fill F_Matching_finds r0 x2 x3 y) I).trans h)
  · intro pc ls st I2 h1 h2 h3 h
    rcases mC_ok h with ⟨hb, h⟩ | ⟨_, h⟩
    · have e := Nat.eq_of_beq_eq_true hb
      subst e
      obtain ⟨hst, h⟩ := mN_ok h
      subst hst
      obtain ⟨n1, h⟩ := gD_ok h
      obtain ⟨a4, n4, h⟩ := gI_ok h
      obtain ⟨a5, n5, h⟩ := gI_ok h
      refine at_leaf (ls2 := [(103, .ref r0), (0, dV), (0, .int x2), (0, .int x3), (0, .int a4), (0, .int a5)]) h3.1 ⟨Or.inr ⟨_, (h3.2 0 rfl).trans rfl⟩, Or.inl ⟨rfl, n1⟩, Or.inr ⟨_, (h3.2 2 rfl).trans rfl⟩, Or.inr ⟨_, (h3.2 3 rfl).trans rfl⟩, Or.inr n4, Or.inr n5, trivial⟩ ?_
      cases h; exact qb _ _ hq
    cases h
  · intro v I2 _ h
    split at h
    · cases h; exact qr _ _ hq
    · cases h
def K_Matching_most_14 (r0 : Nat) (x2 : Int32) (x3 : Int32) (x4 : Int32) (x5 : Int32) : M (Int32) :=
  lp (B_Matching_most_14 r0 x2 x3) FU (x4, x5)
theorem s_Matching_most_14 {d : Nat} (hcs : AllS L X d (cs_Matching_most F_Arrays_fill F_Matching_finds)) (r0 : Nat) (x2 : Int32) (x3 : Int32) (x4 : Int32) (x5 : Int32) (t0 : okB 103 r0 = true) {o : Option Value × PH} {Q : (Int32) → MI → Prop} (q0 : ∀ v I, Q v I → o = (some (.int v), HH I)) (I : MI) (r : Int32) (I1 : MI) (h : K_Matching_most_14 r0 x2 x3 x4 x5 I = some (r, I1)) (hq : Q r I1) : At L X (d + 1) 128 14 [(103, .ref r0), (0, dV), (0, .int x2), (0, .int x3), (0, .int x4), (0, .int x5)] [] I o := by
  unfold K_Matching_most_14 at h
  have w0 := fun w => at_lp (body := B_Matching_most_14 r0 x2 x3) (P := (fun (y : Int32 × Int32) I => At L X (d + 1) 128 14 [(103, .ref r0), (0, dV), (0, .int x2), (0, .int x3), (0, .int y.1), (0, .int y.2)] [] I o)) (Q := (fun (e : Int32) I => Q e I)) w FU (x4, x5) I r I1 h hq
  refine w0 ?_
  intro y I r I1 h hq
  exact b_Matching_most_14 hcs r0 x2 x3 t0 (Q := SQ (fun (y : Int32 × Int32) I => At L X (d + 1) 128 14 [(103, .ref r0), (0, dV), (0, .int x2), (0, .int x3), (0, .int y.1), (0, .int y.2)] [] I o) (fun (e : Int32) I => Q e I)) (fun _ _ w => w) q0 y I r I1 h hq
def F_Matching_most (r0 : Nat) (x1 : Int32) (x2 : Int32) (x3 : Int32) : M (Int32) :=
  bn (F_Arrays_fill (r0 + 2) (-1 : Int32)) fun _ =>
  K_Matching_most_14 r0 x2 x3 (0 : Int32) x1
set_option maxRecDepth 4000 in
theorem e_s_Matching_most_0 (f_Arrays_fill : Nat → Int32 → M Unit) (f_Matching_finds : Nat → Int32 → Int32 → M Int32) (k_14 : Nat → Int32 → Int32 → Int32 → Int32 → M (Int32)) (r0 : Nat) (x1 : Int32) (x2 : Int32) (x3 : Int32) : wf (β := Int32) L X q_Matching_most 1 (cs_Matching_most f_Arrays_fill f_Matching_finds) [4, 5] [14] (fun pc ls st => mC (Nat.beq pc 14) (mN st <| gD ls 1 <| gI ls 4 fun a4 => gI ls 5 fun a5 => k_14 r0 x2 x3 a4 a5) (fl)) (fun v => match v with | some (_, .int x) => rt x | _ => fl) 37 0 [(103, .ref r0), (0, .int x1), (0, .int x2), (0, .int x3), (0, dV), (0, dV)] [] = (bn (f_Arrays_fill (r0 + 2) (-1 : Int32)) fun _ =>
  k_14 r0 x2 x3 (0 : Int32) x1) := rfl
theorem s_Matching_most_0 {d : Nat} (hcs : AllS L X d (cs_Matching_most F_Arrays_fill F_Matching_finds)) (r0 : Nat) (x1 : Int32) (x2 : Int32) (x3 : Int32) (t0 : okB 103 r0 = true) {o : Option Value × PH} {Q : (Int32) → MI → Prop} (q0 : ∀ v I, Q v I → o = (some (.int v), HH I)) (I : MI) (r : Int32) (I1 : MI) (h : F_Matching_most r0 x1 x2 x3 I = some (r, I1)) (hq : Q r I1) : At L X (d + 1) 128 0 [(103, .ref r0), (0, .int x1), (0, .int x2), (0, .int x3), (0, dV), (0, dV)] [] I o := by
  refine wf_ok z_Matching_most hcs ?_ ?_ _ _ _ _ _ ⟨t0, trivial, trivial, trivial, trivial, trivial, trivial⟩ trivial (unm_refl _ _) ((congrFun (e_s_Matching_most_0 (L := L) (X := X) F_Arrays_fill F_Matching_finds K_Matching_most_14 r0 x1 x2 x3) I).trans h)
  · intro pc ls st I2 h1 h2 h3 h
    rcases mC_ok h with ⟨hb, h⟩ | ⟨_, h⟩
    · have e := Nat.eq_of_beq_eq_true hb
      subst e
      obtain ⟨hst, h⟩ := mN_ok h
      subst hst
      obtain ⟨n1, h⟩ := gD_ok h
      obtain ⟨a4, n4, h⟩ := gI_ok h
      obtain ⟨a5, n5, h⟩ := gI_ok h
      refine at_leaf (ls2 := [(103, .ref r0), (0, dV), (0, .int x2), (0, .int x3), (0, .int a4), (0, .int a5)]) h3.1 ⟨Or.inr ⟨_, (h3.2 0 rfl).trans rfl⟩, Or.inl ⟨rfl, n1⟩, Or.inr ⟨_, (h3.2 2 rfl).trans rfl⟩, Or.inr ⟨_, (h3.2 3 rfl).trans rfl⟩, Or.inr n4, Or.inr n5, trivial⟩ ?_
      exact s_Matching_most_14 hcs r0 x2 x3 a4 a5 t0 q0 _ _ _ h hq
    cases h
  · intro v I2 _ h
    split at h
    · cases h; exact q0 _ _ hq
    · cases h
theorem w_Matching_most {d : Nat} (hcs : AllS L X d (cs_Matching_most F_Arrays_fill F_Matching_finds)) : Snd L X (d + 1) 128 4 (W_Matching_most F_Matching_most) := by
  refine ⟨_, z_Matching_most, rfl, fun β args k I r hty hlen h => ?_⟩
  unfold W_Matching_most at h
  split at h
  · rename_i t0 a0 u1 a1 u2 a2 u3 a3
    obtain ⟨hb0, h⟩ := mB_ok h
    have e0 := Nat.eq_of_beq_eq_true hb0
    have g0 : okB 103 a0 = true := e0 ▸ hty.1
    obtain ⟨v, I1, h1, h2⟩ := bn_some h
    refine ⟨gf_obj (c := 3) (by decide) g0, rfl, some (0, .int v), I1, trivial, ?_, h2⟩
    exact s_Matching_most_0 hcs a0 a1 a2 a3 g0 (Q := fun w I => w = v ∧ I = I1) (fun w I q => by obtain ⟨rfl, rfl⟩ := q; rfl) I v I1 h1 ⟨rfl, rfl⟩
  · cases h
theorem S_Matching_most {d : Nat} (hd : 31 ≤ d) : Snd L X d 128 4 (W_Matching_most F_Matching_most) := by
  obtain ⟨e, rfl⟩ : ∃ e, d = e + 1 := ⟨d - 1, by omega⟩
  exact w_Matching_most ⟨S_Arrays_fill (by omega), S_Matching_finds (by omega), trivial⟩
end
