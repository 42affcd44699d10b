/-! trial (written by wip/tools/gen_f.py) -/
section
variable {L : Nat} {X : Nat → Int32}
set_option maxRecDepth 100000 in
theorem z_World_isPerson : pT[21]? = some (q_World_isPerson, 2, 2, 2, 10) := rfl
def W_World_isPerson (F : Nat → Int32 → M Int32) : CSem := fun _ args k => match args with
  | [(t0, .ref a0), (_, .int a1)] => mB (Nat.beq t0 110) <| bn (F a0 a1) fun v => k (some (0, .int v))
  | _ => fl
def cs_World_isPerson : List (Nat × Nat × CSem) := []
def F_World_isPerson (r0 : Nat) (x1 : Int32) : M (Int32) :=
  (if x1 < 0 then
    bn (gdZ (0 : Int32)) fun _ => rt (0 : Int32)
  else
    bn (rd r0 7) fun v1 =>
    (if x1 < v1 then
      bn (gdZ (1 : Int32)) fun _ => rt (1 : Int32)
    else
      bn (gdZ (0 : Int32)) fun _ => rt (0 : Int32)))
set_option maxRecDepth 4000 in
theorem e_s_World_isPerson_0 (r0 : Nat) (x1 : Int32) : wf (β := Int32) L X q_World_isPerson 2 cs_World_isPerson [] [] (fun _ _ _ => fl) (fun v => match v with | some (_, .int x) => rt x | _ => fl) 15 0 [(110, .ref r0), (0, .int x1)] [] = ((if x1 < 0 then
    bn (gdZ (0 : Int32)) fun _ => rt (0 : Int32)
  else
    bn (rd r0 7) fun v1 =>
    (if x1 < v1 then
      bn (gdZ (1 : Int32)) fun _ => rt (1 : Int32)
    else
      bn (gdZ (0 : Int32)) fun _ => rt (0 : Int32)))) := rfl
theorem s_World_isPerson_0 {d : Nat} (hcs : AllS L X d cs_World_isPerson) (r0 : Nat) (x1 : Int32) (t0 : okB 110 r0 = true) {o : Option Value × PH} {Q : (Int32) → MI → Prop} (q0 : ∀ v I, Q v I → o = (some (.int v), HH I)) (I : MI) (r : Int32) (I1 : MI) (h : F_World_isPerson r0 x1 I = some (r, I1)) (hq : Q r I1) : At L X (d + 1) 21 0 [(110, .ref r0), (0, .int x1)] [] I o := by
  refine wf_ok z_World_isPerson hcs ?_ ?_ _ _ _ _ _ ⟨t0, trivial, trivial⟩ trivial (unm_refl _ _) ((congrFun (e_s_World_isPerson_0 (L := L) (X := X) r0 x1) I).trans h)
  · intro pc ls st I2 h1 h2 h3 h
    cases h
  · intro v I2 _ h
    split at h
    · cases h; exact q0 _ _ hq
    · cases h
theorem w_World_isPerson {d : Nat} (hcs : AllS L X d cs_World_isPerson) : Snd L X (d + 1) 21 2 (W_World_isPerson F_World_isPerson) := by
  refine ⟨_, z_World_isPerson, rfl, fun β args k I r hty hlen h => ?_⟩
  unfold W_World_isPerson at h
  split at h
  · rename_i t0 a0 u1 a1
    obtain ⟨hb0, h⟩ := mB_ok h
    have e0 := Nat.eq_of_beq_eq_true hb0
    have g0 : okB 110 a0 = true := e0 ▸ hty.1
    obtain ⟨v, I1, h1, h2⟩ := bn_some h
    refine ⟨gf_obj (c := 10) (by decide) g0, rfl, some (0, .int v), I1, trivial, ?_, h2⟩
    exact s_World_isPerson_0 hcs a0 a1 g0 (Q := fun w I => w = v ∧ I = I1) (fun w I q => by obtain ⟨rfl, rfl⟩ := q; rfl) I v I1 h1 ⟨rfl, rfl⟩
  · cases h
theorem S_World_isPerson {d : Nat} (hd : 1 ≤ d) : Snd L X d 21 2 (W_World_isPerson F_World_isPerson) := by
  obtain ⟨e, rfl⟩ : ∃ e, d = e + 1 := ⟨d - 1, by omega⟩
  exact w_World_isPerson trivial
end
