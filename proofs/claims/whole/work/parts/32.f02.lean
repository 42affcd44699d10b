/-! trial (written by wip/tools/gen_f.py) -/
section
variable {L : Nat} {X : Nat → Int32}
set_option maxRecDepth 100000 in
theorem z_Book_write : pT[32]? = some (q_Book_write, 5, 6, 0, 0) := rfl
def W_Book_write (F : Nat → Nat → Int32 → Int32 → Int32 → M Unit) : CSem := fun _ args k => match args with
  | [(t0, .ref a0), (t1, .ref a1), (_, .int a2), (_, .int a3), (_, .int a4)] => mB (Nat.beq t0 100) <| mB (Nat.beq t1 110) <| bn (F a0 a1 a2 a3 a4) fun _ => k none
  | _ => fl
def cs_Book_write : List (Nat × Nat × CSem) := []
def F_Book_write (r0 : Nat) (r1 : Nat) (x2 : Int32) (x3 : Int32) (x4 : Int32) : M (Unit) :=
  bn (rd r1 6) fun v1 =>
  (if v1 < 0 then
    rt ()
  else
    bn (rd r1 6) fun v2 =>
    (if v2 < (150 : Int32) then
      bn (rd r1 6) fun v3 =>
      bn (rd r1 5) fun v4 =>
      bn (sr 750 (r0 + 1) (v3 * (5 : Int32)) v4) fun _ =>
      bn (rd r1 4) fun v5 =>
      bn (sr 750 (r0 + 1) ((v3 * (5 : Int32)) + (1 : Int32)) v5) fun _ =>
      bn (sr 750 (r0 + 1) ((v3 * (5 : Int32)) + (2 : Int32)) x2) fun _ =>
      bn (sr 750 (r0 + 1) ((v3 * (5 : Int32)) + (3 : Int32)) x3) fun _ =>
      bn (sr 750 (r0 + 1) ((v3 * (5 : Int32)) + (4 : Int32)) x4) fun _ =>
      bn (rd r1 6) fun v6 =>
      bn (wr r1 6 (v6 + (1 : Int32))) fun _ =>
      rt ()
    else
      rt ()))
set_option maxRecDepth 4000 in
theorem e_s_Book_write_0 (r0 : Nat) (r1 : Nat) (x2 : Int32) (x3 : Int32) (x4 : Int32) : wf (β := Unit) L X q_Book_write 0 cs_Book_write [5] [] (fun _ _ _ => fl) (fun v => match v with | none => rt () | _ => fl) 60 0 [(100, .ref r0), (110, .ref r1), (0, .int x2), (0, .int x3), (0, .int x4), (0, dV)] [] = (bn (rd r1 6) fun v1 =>
  (if v1 < 0 then
    rt ()
  else
    bn (rd r1 6) fun v2 =>
    (if v2 < (150 : Int32) then
      bn (rd r1 6) fun v3 =>
      bn (rd r1 5) fun v4 =>
      bn (sr 750 (r0 + 1) (v3 * (5 : Int32)) v4) fun _ =>
      bn (rd r1 4) fun v5 =>
      bn (sr 750 (r0 + 1) ((v3 * (5 : Int32)) + (1 : Int32)) v5) fun _ =>
      bn (sr 750 (r0 + 1) ((v3 * (5 : Int32)) + (2 : Int32)) x2) fun _ =>
      bn (sr 750 (r0 + 1) ((v3 * (5 : Int32)) + (3 : Int32)) x3) fun _ =>
      bn (sr 750 (r0 + 1) ((v3 * (5 : Int32)) + (4 : Int32)) x4) fun _ =>
      bn (rd r1 6) fun v6 =>
      bn (wr r1 6 (v6 + (1 : Int32))) fun _ =>
      rt ()
    else
      rt ()))) := rfl
theorem s_Book_write_0 {d : Nat} (hcs : AllS L X d cs_Book_write) (r0 : Nat) (r1 : Nat) (x2 : Int32) (x3 : Int32) (x4 : Int32) (t0 : okB 100 r0 = true) (t1 : okB 110 r1 = true) {o : Option Value × PH} {Q : (Unit) → MI → Prop} (q0 : ∀ v I, Q v I → o = (none, HH I)) (I : MI) (r : Unit) (I1 : MI) (h : F_Book_write r0 r1 x2 x3 x4 I = some (r, I1)) (hq : Q r I1) : At L X (d + 1) 32 0 [(100, .ref r0), (110, .ref r1), (0, .int x2), (0, .int x3), (0, .int x4), (0, dV)] [] I o := by
  refine wf_ok z_Book_write hcs ?_ ?_ _ _ _ _ _ ⟨t0, t1, trivial, trivial, trivial, trivial, trivial⟩ trivial (unm_refl _ _) ((congrFun (e_s_Book_write_0 (L := L) (X := X) r0 r1 x2 x3 x4) I).trans h)
  · intro pc ls st I2 h1 h2 h3 h
    cases h
  · intro v I2 _ h
    split at h
    · cases h; exact q0 _ _ hq
    · cases h
theorem w_Book_write {d : Nat} (hcs : AllS L X d cs_Book_write) : Snd L X (d + 1) 32 5 (W_Book_write F_Book_write) := by
  refine ⟨_, z_Book_write, rfl, fun β args k I r hty hlen h => ?_⟩
  unfold W_Book_write at h
  split at h
  · rename_i t0 a0 t1 a1 u2 a2 u3 a3 u4 a4
    obtain ⟨hb0, h⟩ := mB_ok h
    have e0 := Nat.eq_of_beq_eq_true hb0
    have g0 : okB 100 a0 = true := e0 ▸ hty.1
    obtain ⟨hb1, h⟩ := mB_ok h
    have e1 := Nat.eq_of_beq_eq_true hb1
    have g1 : okB 110 a1 = true := e1 ▸ hty.2.1
    obtain ⟨v, I1, h1, h2⟩ := bn_some h
    refine ⟨gf_obj (c := 0) (by decide) g0, rfl, none, I1, trivial, ?_, h2⟩
    exact s_Book_write_0 hcs a0 a1 a2 a3 a4 g0 g1 (Q := fun w I => w = v ∧ I = I1) (fun w I q => by obtain ⟨rfl, rfl⟩ := q; rfl) I v I1 h1 ⟨rfl, rfl⟩
  · cases h
theorem S_Book_write {d : Nat} (hd : 1 ≤ d) : Snd L X d 32 5 (W_Book_write F_Book_write) := by
  obtain ⟨e, rfl⟩ : ∃ e, d = e + 1 := ⟨d - 1, by omega⟩
  exact w_Book_write trivial
end
