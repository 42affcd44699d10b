/-! trial (written by wip/tools/gen_f.py) -/
section
variable {L : Nat} {X : Nat → Int32}
set_option maxRecDepth 100000 in
theorem z_A_keepPast : pT[27]? = some (q_A_keepPast, 1, 1, 0, 11) := rfl
def W_A_keepPast (F : M Unit) : CSem := fun _ args k => match args with
  | [(t0, .ref a0)] => mB (Nat.beq t0 111) <| bn (F) fun _ => k none
  | _ => fl
def cs_A_keepPast (f_World_become : Nat → Nat → M Unit) : List (Nat × Nat × CSem) := [(28, 2, W_World_become f_World_become)]
def F_A_keepPast : M (Unit) :=
  bn (rd 0 8) fun v1 =>
  bn (gd (inR v1 6)) fun _ =>
  bn (F_World_become (124 + 11 * (v1).toNatClampNeg) 2) fun _ =>
  bn (rd 0 8) fun v2 =>
  dvI (6 : Int32) <|
  bn (wr 0 8 ((v2 + (1 : Int32)) - (v2 + (1 : Int32)) / (6 : Int32) * (6 : Int32))) fun _ =>
  bn (rd 0 9) fun v3 =>
  bn (wr 0 9 (if (v3 + (1 : Int32)) < (6 : Int32) then (v3 + (1 : Int32)) else (6 : Int32))) fun _ =>
  rt ()
set_option maxRecDepth 4000 in
theorem e_s_A_keepPast_0 (f_World_become : Nat → Nat → M Unit) : wf (β := Unit) L X q_A_keepPast 0 (cs_A_keepPast f_World_become) [] [] (fun _ _ _ => fl) (fun v => match v with | none => rt () | _ => fl) 31 0 [(111, .ref 0)] [] = (bn (rd 0 8) fun v1 =>
  bn (gd (inR v1 6)) fun _ =>
  bn (f_World_become (124 + 11 * (v1).toNatClampNeg) 2) fun _ =>
  bn (rd 0 8) fun v2 =>
  dvI (6 : Int32) <|
  bn (wr 0 8 ((v2 + (1 : Int32)) - (v2 + (1 : Int32)) / (6 : Int32) * (6 : Int32))) fun _ =>
  bn (rd 0 9) fun v3 =>
  bn (wr 0 9 (if (v3 + (1 : Int32)) < (6 : Int32) then (v3 + (1 : Int32)) else (6 : Int32))) fun _ =>
  rt ()) := rfl
theorem s_A_keepPast_0 {d : Nat} (hcs : AllS L X d (cs_A_keepPast F_World_become)) {o : Option Value × PH} {Q : (Unit) → MI → Prop} (q0 : ∀ v I, Q v I → o = (none, HH I)) (I : MI) (r : Unit) (I1 : MI) (h : F_A_keepPast I = some (r, I1)) (hq : Q r I1) : At L X (d + 1) 27 0 [(111, .ref 0)] [] I o := by
  refine wf_ok z_A_keepPast hcs ?_ ?_ _ _ _ _ _ ⟨rfl, trivial⟩ trivial (unm_refl _ _) ((congrFun (e_s_A_keepPast_0 (L := L) (X := X) F_World_become) I).trans h)
  · intro pc ls st I2 h1 h2 h3 h
    cases h
  · intro v I2 _ h
    split at h
    · cases h; exact q0 _ _ hq
    · cases h
theorem w_A_keepPast {d : Nat} (hcs : AllS L X d (cs_A_keepPast F_World_become)) : Snd L X (d + 1) 27 1 (W_A_keepPast F_A_keepPast) := by
  refine ⟨_, z_A_keepPast, rfl, fun β args k I r hty hlen h => ?_⟩
  unfold W_A_keepPast at h
  split at h
  · rename_i t0 a0
    obtain ⟨hb0, h⟩ := mB_ok h
    have e0 := Nat.eq_of_beq_eq_true hb0
    have g0 : okB 111 a0 = true := e0 ▸ hty.1
    have e20 := one_111 g0
    subst e20
    obtain ⟨v, I1, h1, h2⟩ := bn_some h
    refine ⟨gf_obj (c := 11) (by decide) g0, rfl, none, I1, trivial, ?_, h2⟩
    exact s_A_keepPast_0 hcs   (Q := fun w I => w = v ∧ I = I1) (fun w I q => by obtain ⟨rfl, rfl⟩ := q; rfl) I v I1 h1 ⟨rfl, rfl⟩
  · cases h
theorem S_A_keepPast {d : Nat} (hd : 2 ≤ d) : Snd L X d 27 1 (W_A_keepPast F_A_keepPast) := by
  obtain ⟨e, rfl⟩ : ∃ e, d = e + 1 := ⟨d - 1, by omega⟩
  exact w_A_keepPast ⟨S_World_become (by omega), trivial⟩
end
