/-! trial (written by wip/tools/gen_f.py) -/
section
variable {L : Nat} {X : Nat → Int32}
set_option maxRecDepth 100000 in
theorem z_World_become : pT[28]? = some (q_World_become, 2, 2, 0, 10) := rfl
def W_World_become (F : Nat → Nat → M Unit) : CSem := fun _ args k => match args with
  | [(t0, .ref a0), (t1, .ref a1)] => mB (Nat.beq t0 110) <| mB (Nat.beq t1 110) <| bn (F a0 a1) fun _ => k none
  | _ => fl
def cs_World_become : List (Nat × Nat × CSem) := []
def F_World_become (r0 : Nat) (r1 : Nat) : M (Unit) :=
  bn (rd r1 0) fun v1 =>
  bn (wr r0 0 v1) fun _ =>
  bn (rd r1 1) fun v2 =>
  bn (wr r0 1 v2) fun _ =>
  bn (rd r1 2) fun v3 =>
  bn (wr r0 2 v3) fun _ =>
  bn (rd r1 3) fun v4 =>
  bn (wr r0 3 v4) fun _ =>
  bn (rd r1 4) fun v5 =>
  bn (wr r0 4 v5) fun _ =>
  bn (rd r1 5) fun v6 =>
  bn (wr r0 5 v6) fun _ =>
  bn (rd r1 6) fun v7 =>
  bn (wr r0 6 v7) fun _ =>
  bn (rd r1 7) fun v8 =>
  bn (wr r0 7 v8) fun _ =>
  bn (rd r1 8) fun v9 =>
  bn (wr r0 8 v9) fun _ =>
  bn (cpM 10 10 (r1 + 1) (0 : Int32) (r0 + 1) (0 : Int32) (10 : Int32)) fun _ =>
  bn (cpM 6 6 (r1 + 2) (0 : Int32) (r0 + 2) (0 : Int32) (6 : Int32)) fun _ =>
  bn (cpM 6 6 (r1 + 3) (0 : Int32) (r0 + 3) (0 : Int32) (6 : Int32)) fun _ =>
  bn (cpM 18 18 (r1 + 4) (0 : Int32) (r0 + 4) (0 : Int32) (18 : Int32)) fun _ =>
  bn (cpM 18 18 (r1 + 5) (0 : Int32) (r0 + 5) (0 : Int32) (18 : Int32)) fun _ =>
  bn (cpM 18 18 (r1 + 6) (0 : Int32) (r0 + 6) (0 : Int32) (18 : Int32)) fun _ =>
  bn (cpM 18 18 (r1 + 7) (0 : Int32) (r0 + 7) (0 : Int32) (18 : Int32)) fun _ =>
  bn (cpM 18 18 (r1 + 8) (0 : Int32) (r0 + 8) (0 : Int32) (18 : Int32)) fun _ =>
  bn (cpM 18 18 (r1 + 9) (0 : Int32) (r0 + 9) (0 : Int32) (18 : Int32)) fun _ =>
  bn (cpM 18 18 (r1 + 10) (0 : Int32) (r0 + 10) (0 : Int32) (18 : Int32)) fun _ =>
  rt ()
set_option maxRecDepth 4000 in
theorem e_s_World_become_0 (r0 : Nat) (r1 : Nat) : wf (β := Unit) L X q_World_become 0 cs_World_become [] [] (fun _ _ _ => fl) (fun v => match v with | none => rt () | _ => fl) 122 0 [(110, .ref r0), (110, .ref r1)] [] = (bn (rd r1 0) fun v1 =>
  bn (wr r0 0 v1) fun _ =>
  bn (rd r1 1) fun v2 =>
  bn (wr r0 1 v2) fun _ =>
  bn (rd r1 2) fun v3 =>
  bn (wr r0 2 v3) fun _ =>
  bn (rd r1 3) fun v4 =>
  bn (wr r0 3 v4) fun _ =>
  bn (rd r1 4) fun v5 =>
  bn (wr r0 4 v5) fun _ =>
  bn (rd r1 5) fun v6 =>
  bn (wr r0 5 v6) fun _ =>
  bn (rd r1 6) fun v7 =>
  bn (wr r0 6 v7) fun _ =>
  bn (rd r1 7) fun v8 =>
  bn (wr r0 7 v8) fun _ =>
  bn (rd r1 8) fun v9 =>
  bn (wr r0 8 v9) fun _ =>
  bn (cpM 10 10 (r1 + 1) (0 : Int32) (r0 + 1) (0 : Int32) (10 : Int32)) fun _ =>
  bn (cpM 6 6 (r1 + 2) (0 : Int32) (r0 + 2) (0 : Int32) (6 : Int32)) fun _ =>
  bn (cpM 6 6 (r1 + 3) (0 : Int32) (r0 + 3) (0 : Int32) (6 : Int32)) fun _ =>
  bn (cpM 18 18 (r1 + 4) (0 : Int32) (r0 + 4) (0 : Int32) (18 : Int32)) fun _ =>
  bn (cpM 18 18 (r1 + 5) (0 : Int32) (r0 + 5) (0 : Int32) (18 : Int32)) fun _ =>
  bn (cpM 18 18 (r1 + 6) (0 : Int32) (r0 + 6) (0 : Int32) (18 : Int32)) fun _ =>
  bn (cpM 18 18 (r1 + 7) (0 : Int32) (r0 + 7) (0 : Int32) (18 : Int32)) fun _ =>
  bn (cpM 18 18 (r1 + 8) (0 : Int32) (r0 + 8) (0 : Int32) (18 : Int32)) fun _ =>
  bn (cpM 18 18 (r1 + 9) (0 : Int32) (r0 + 9) (0 : Int32) (18 : Int32)) fun _ =>
  bn (cpM 18 18 (r1 + 10) (0 : Int32) (r0 + 10) (0 : Int32) (18 : Int32)) fun _ =>
  rt ()) := rfl
theorem s_World_become_0 {d : Nat} (hcs : AllS L X d cs_World_become) (r0 : Nat) (r1 : Nat) (t0 : okB 110 r0 = true) (t1 : okB 110 r1 = true) {o : Option Value × PH} {Q : (Unit) → MI → Prop} (q0 : ∀ v I, Q v I → o = (none, HH I)) (I : MI) (r : Unit) (I1 : MI) (h : F_World_become r0 r1 I = some (r, I1)) (hq : Q r I1) : At L X (d + 1) 28 0 [(110, .ref r0), (110, .ref r1)] [] I o := by
  refine wf_ok z_World_become hcs ?_ ?_ _ _ _ _ _ ⟨t0, t1, trivial⟩ trivial (unm_refl _ _) ((congrFun (e_s_World_become_0 (L := L) (X := X) r0 r1) I).trans h)
  · intro pc ls st I2 h1 h2 h3 h
    cases h
  · intro v I2 _ h
    split at h
    · cases h; exact q0 _ _ hq
    · cases h
theorem w_World_become {d : Nat} (hcs : AllS L X d cs_World_become) : Snd L X (d + 1) 28 2 (W_World_become F_World_become) := by
  refine ⟨_, z_World_become, rfl, fun β args k I r hty hlen h => ?_⟩
  unfold W_World_become at h
  split at h
  · rename_i t0 a0 t1 a1
    obtain ⟨hb0, h⟩ := mB_ok h
    have e0 := Nat.eq_of_beq_eq_true hb0
    have g0 : okB 110 a0 = true := e0 ▸ hty.1
    obtain ⟨hb1, h⟩ := mB_ok h
    have e1 := Nat.eq_of_beq_eq_true hb1
    have g1 : okB 110 a1 = true := e1 ▸ hty.2.1
    obtain ⟨v, I1, h1, h2⟩ := bn_some h
    refine ⟨gf_obj (c := 10) (by decide) g0, rfl, none, I1, trivial, ?_, h2⟩
    exact s_World_become_0 hcs a0 a1 g0 g1 (Q := fun w I => w = v ∧ I = I1) (fun w I q => by obtain ⟨rfl, rfl⟩ := q; rfl) I v I1 h1 ⟨rfl, rfl⟩
  · cases h
theorem S_World_become {d : Nat} (hd : 1 ≤ d) : Snd L X d 28 2 (W_World_become F_World_become) := by
  obtain ⟨e, rfl⟩ : ∃ e, d = e + 1 := ⟨d - 1, by omega⟩
  exact w_World_become trivial
end
