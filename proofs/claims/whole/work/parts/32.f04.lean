/-! trial (written by wip/tools/gen_f.py) -/
section
variable {L : Nat} {X : Nat → Int32}
set_option maxRecDepth 100000 in
theorem z_A_pay : pT[31]? = some (q_A_pay, 2, 4, 2, 11) := rfl
def W_A_pay (F : Int32 → M Int32) : CSem := fun _ args k => match args with
  | [(t0, .ref a0), (_, .int a1)] => mB (Nat.beq t0 111) <| bn (F a1) fun v => k (some (0, .int v))
  | _ => fl
def cs_A_pay (f_A_keepPast : M Unit) (f_Book_write : Nat → Nat → Int32 → Int32 → Int32 → M Unit) (f_World_isPerson : Nat → Int32 → M Int32) : List (Nat × Nat × CSem) := [(27, 1, W_A_keepPast f_A_keepPast), (32, 5, W_Book_write f_Book_write), (21, 2, W_World_isPerson f_World_isPerson)]
def F_A_pay (x1 : Int32) : M (Int32) :=
  bn (F_World_isPerson 2 x1) fun v1 =>
  (if v1 = 0 then
    bn (gdZ (0 : Int32)) fun _ => rt (0 : Int32)
  else
    bn (rd 2 1) fun v2 =>
    bn (ld 6 5 x1) fun v3 =>
    (if 0 < (if v3 < v2 then v3 else v2) then
      bn (F_A_keepPast) fun _ =>
      bn (rd 2 1) fun v4 =>
      bn (wr 2 1 (v4 - (if v3 < v2 then v3 else v2))) fun _ =>
      bn (ld 6 5 x1) fun v5 =>
      bn (sr 6 5 x1 (v5 - (if v3 < v2 then v3 else v2))) fun _ =>
      bn (F_Book_write 13 2 (4 : Int32) x1 (if v3 < v2 then v3 else v2)) fun _ =>
      bn (gdZ (1 : Int32)) fun _ => rt (1 : Int32)
    else
      bn (gdZ (0 : Int32)) fun _ => rt (0 : Int32)))
set_option maxRecDepth 4000 in
theorem e_s_A_pay_0 (f_A_keepPast : M Unit) (f_Book_write : Nat → Nat → Int32 → Int32 → Int32 → M Unit) (f_World_isPerson : Nat → Int32 → M Int32) (x1 : Int32) : wf (β := Int32) L X q_A_pay 2 (cs_A_pay f_A_keepPast f_Book_write f_World_isPerson) [2, 3] [] (fun _ _ _ => fl) (fun v => match v with | some (_, .int x) => rt x | _ => fl) 53 0 [(111, .ref 0), (0, .int x1), (0, dV), (0, dV)] [] = (bn (f_World_isPerson 2 x1) fun v1 =>
  (if v1 = 0 then
    bn (gdZ (0 : Int32)) fun _ => rt (0 : Int32)
  else
    bn (rd 2 1) fun v2 =>
    bn (ld 6 5 x1) fun v3 =>
    (if 0 < (if v3 < v2 then v3 else v2) then
      bn (f_A_keepPast) fun _ =>
      bn (rd 2 1) fun v4 =>
      bn (wr 2 1 (v4 - (if v3 < v2 then v3 else v2))) fun _ =>
      bn (ld 6 5 x1) fun v5 =>
      bn (sr 6 5 x1 (v5 - (if v3 < v2 then v3 else v2))) fun _ =>
      bn (f_Book_write 13 2 (4 : Int32) x1 (if v3 < v2 then v3 else v2)) fun _ =>
      bn (gdZ (1 : Int32)) fun _ => rt (1 : Int32)
    else
      bn (gdZ (0 : Int32)) fun _ => rt (0 : Int32)))) := rfl
theorem s_A_pay_0 {d : Nat} (hcs : AllS L X d (cs_A_pay F_A_keepPast F_Book_write F_World_isPerson)) (x1 : Int32) {o : Option Value × PH} {Q : (Int32) → MI → Prop} (q0 : ∀ v I, Q v I → o = (some (.int v), HH I)) (I : MI) (r : Int32) (I1 : MI) (h : F_A_pay x1 I = some (r, I1)) (hq : Q r I1) : At L X (d + 1) 31 0 [(111, .ref 0), (0, .int x1), (0, dV), (0, dV)] [] I o := by
  refine wf_ok z_A_pay hcs ?_ ?_ _ _ _ _ _ ⟨rfl, trivial, trivial, trivial, trivial⟩ trivial (unm_refl _ _) ((congrFun (e_s_A_pay_0 (L := L) (X := X) F_A_keepPast F_Book_write F_World_isPerson x1) I).trans h)
  · intro pc ls st I2 h1 h2 h3 h
    cases h
  · intro v I2 _ h
    split at h
    · cases h; exact q0 _ _ hq
    · cases h
theorem w_A_pay {d : Nat} (hcs : AllS L X d (cs_A_pay F_A_keepPast F_Book_write F_World_isPerson)) : Snd L X (d + 1) 31 2 (W_A_pay F_A_pay) := by
  refine ⟨_, z_A_pay, rfl, fun β args k I r hty hlen h => ?_⟩
  unfold W_A_pay at h
  split at h
  · rename_i t0 a0 u1 a1
    obtain ⟨hb0, h⟩ := mB_ok h
    have e0 := Nat.eq_of_beq_eq_true hb0
    have g0 : okB 111 a0 = true := e0 ▸ hty.1
    have e20 := one_111 g0
    subst e20
    obtain ⟨v, I1, h1, h2⟩ := bn_some h
    refine ⟨gf_obj (c := 11) (by decide) g0, rfl, some (0, .int v), I1, trivial, ?_, h2⟩
    exact s_A_pay_0 hcs a1  (Q := fun w I => w = v ∧ I = I1) (fun w I q => by obtain ⟨rfl, rfl⟩ := q; rfl) I v I1 h1 ⟨rfl, rfl⟩
  · cases h
theorem S_A_pay {d : Nat} (hd : 3 ≤ d) : Snd L X d 31 2 (W_A_pay F_A_pay) := by
  obtain ⟨e, rfl⟩ : ∃ e, d = e + 1 := ⟨d - 1, by omega⟩
  exact w_A_pay ⟨S_A_keepPast (by omega), S_Book_write (by omega), S_World_isPerson (by omega), trivial⟩
end
