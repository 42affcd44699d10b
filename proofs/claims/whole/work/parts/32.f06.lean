/-! methods (written by wip/tools/gen_f.py) -/
section
variable {L : Nat} {X : Nat → Int32}
set_option maxRecDepth 100000 in
theorem z_World_change0 : pT[23]? = some (q_World_change0, 4, 4, 2, 10) := rfl
def W_World_change0 (F : Nat → Int32 → Int32 → Int32 → M Int32) : CSem := fun _ args k => match args with
  | [(t0, .ref a0), (_, .int a1), (_, .int a2), (_, .int a3)] => mB (Nat.beq t0 110) <| bn (F a0 a1 a2 a3) fun v => k (some (0, .int v))
  | _ => fl
def cs_World_change0 (f_World_change1 : Nat → Int32 → Int32 → Int32 → Int32 → M Int32) : List (Nat × Nat × CSem) := [(24, 5, W_World_change1 f_World_change1)]
def F_World_change0 (r0 : Nat) (x1 : Int32) (x2 : Int32) (x3 : Int32) : M (Int32) :=
  (if x1 = (0 : Int32) then
    bn (F_World_change1 (r0 + 1) (10 : Int32) (9 : Int32) x2 x3) fun v1 =>
    bn (gdZ v1) fun _ => rt v1
  else (if x1 = (1 : Int32) then
    bn (rd r0 7) fun v2 =>
    bn (F_World_change1 (r0 + 2) v2 (9 : Int32) x2 x3) fun v3 =>
    bn (gdZ v3) fun _ => rt v3
  else (if x1 = (2 : Int32) then
    bn (rd r0 7) fun v4 =>
    bn (F_World_change1 (r0 + 3) v4 (9999 : Int32) x2 x3) fun v5 =>
    bn (gdZ v5) fun _ => rt v5
  else (if x1 = (3 : Int32) then
    bn (rd r0 8) fun v6 =>
    bn (F_World_change1 (r0 + 5) v6 (9 : Int32) x2 x3) fun v7 =>
    bn (gdZ v7) fun _ => rt v7
  else (if x1 = (4 : Int32) then
    bn (rd r0 8) fun v8 =>
    bn (F_World_change1 (r0 + 9) v8 (99 : Int32) x2 x3) fun v9 =>
    bn (gdZ v9) fun _ => rt v9
  else bn (gdZ (0 : Int32)) fun _ => rt (0 : Int32))))))
set_option maxRecDepth 4000 in
theorem e_s_World_change0_0 (f_World_change1 : Nat → Int32 → Int32 → Int32 → Int32 → M Int32) (r0 : Nat) (x1 : Int32) (x2 : Int32) (x3 : Int32) : wf (β := Int32) L X q_World_change0 2 (cs_World_change0 f_World_change1) [] [] (fun _ _ _ => fl) (fun v => match v with | some (_, .int x) => rt x | _ => fl) 53 0 [(110, .ref r0), (0, .int x1), (0, .int x2), (0, .int x3)] [] = ((if x1 = (0 : Int32) then
    bn (f_World_change1 (r0 + 1) (10 : Int32) (9 : Int32) x2 x3) fun v1 =>
    bn (gdZ v1) fun _ => rt v1
  else (if x1 = (1 : Int32) then
    bn (rd r0 7) fun v2 =>
    bn (f_World_change1 (r0 + 2) v2 (9 : Int32) x2 x3) fun v3 =>
    bn (gdZ v3) fun _ => rt v3
  else (if x1 = (2 : Int32) then
    bn (rd r0 7) fun v4 =>
    bn (f_World_change1 (r0 + 3) v4 (9999 : Int32) x2 x3) fun v5 =>
    bn (gdZ v5) fun _ => rt v5
  else (if x1 = (3 : Int32) then
    bn (rd r0 8) fun v6 =>
    bn (f_World_change1 (r0 + 5) v6 (9 : Int32) x2 x3) fun v7 =>
    bn (gdZ v7) fun _ => rt v7
  else (if x1 = (4 : Int32) then
    bn (rd r0 8) fun v8 =>
    bn (f_World_change1 (r0 + 9) v8 (99 : Int32) x2 x3) fun v9 =>
    bn (gdZ v9) fun _ => rt v9
  else bn (gdZ (0 : Int32)) fun _ => rt (0 : Int32))))))) := rfl
theorem s_World_change0_0 {d : Nat} (hcs : AllS L X d (cs_World_change0 F_World_change1)) (r0 : Nat) (x1 : Int32) (x2 : Int32) (x3 : Int32) (t0 : okB 110 r0 = true) {o : Option Value × PH} {Q : (Int32) → MI → Prop} (q0 : ∀ v I, Q v I → o = (some (.int v), HH I)) (I : MI) (r : Int32) (I1 : MI) (h : F_World_change0 r0 x1 x2 x3 I = some (r, I1)) (hq : Q r I1) : At L X (d + 1) 23 0 [(110, .ref r0), (0, .int x1), (0, .int x2), (0, .int x3)] [] I o := by
  refine wf_ok z_World_change0 hcs ?_ ?_ _ _ _ _ _ ⟨t0, trivial, trivial, trivial, trivial⟩ trivial (unm_refl _ _) ((congrFun (e_s_World_change0_0 (L := L) (X := X) F_World_change1 r0 x1 x2 x3) I).trans h)
  · intro pc ls st I2 h1 h2 h3 h
    cases h
  · intro v I2 _ h
    split at h
    · cases h; exact q0 _ _ hq
    · cases h
theorem w_World_change0 {d : Nat} (hcs : AllS L X d (cs_World_change0 F_World_change1)) : Snd L X (d + 1) 23 4 (W_World_change0 F_World_change0) := by
  refine ⟨_, z_World_change0, rfl, fun β args k I r hty hlen h => ?_⟩
  unfold W_World_change0 at h
  split at h
  · rename_i t0 a0 u1 a1 u2 a2 u3 a3
    obtain ⟨hb0, h⟩ := mB_ok h
    have e0 := Nat.eq_of_beq_eq_true hb0
    have g0 : okB 110 a0 = true := e0 ▸ hty.1
    obtain ⟨v, I1, h1, h2⟩ := bn_some h
    refine ⟨gf_obj (c := 10) (by decide) g0, rfl, some (0, .int v), I1, trivial, ?_, h2⟩
    exact s_World_change0_0 hcs a0 a1 a2 a3 g0 (Q := fun w I => w = v ∧ I = I1) (fun w I q => by obtain ⟨rfl, rfl⟩ := q; rfl) I v I1 h1 ⟨rfl, rfl⟩
  · cases h
theorem S_World_change0 {d : Nat} (hd : 3 ≤ d) : Snd L X d 23 4 (W_World_change0 F_World_change0) := by
  obtain ⟨e, rfl⟩ : ∃ e, d = e + 1 := ⟨d - 1, by omega⟩
  exact w_World_change0 ⟨S_World_change1 (by omega), trivial⟩
set_option maxRecDepth 100000 in
theorem z_A_set : pT[22]? = some (q_A_set, 4, 5, 2, 11) := rfl
def W_A_set (F : Int32 → Int32 → Int32 → M Int32) : CSem := fun _ args k => match args with
  | [(t0, .ref a0), (_, .int a1), (_, .int a2), (_, .int a3)] => mB (Nat.beq t0 111) <| bn (F a1 a2 a3) fun v => k (some (0, .int v))
  | _ => fl
def cs_A_set (f_A_forget : M Unit) (f_World_change0 : Nat → Int32 → Int32 → Int32 → M Int32) : List (Nat × Nat × CSem) := [(15, 1, W_A_forget f_A_forget), (23, 4, W_World_change0 f_World_change0)]
def F_A_set (x1 : Int32) (x2 : Int32) (x3 : Int32) : M (Int32) :=
  bn (F_World_change0 2 x1 x2 x3) fun v1 =>
  (if v1 = 0 then
    bn (gdZ v1) fun _ => rt v1
  else
    bn (F_A_forget) fun _ =>
    bn (gdZ v1) fun _ => rt v1)
set_option maxRecDepth 4000 in
theorem e_s_A_set_0 (f_A_forget : M Unit) (f_World_change0 : Nat → Int32 → Int32 → Int32 → M Int32) (x1 : Int32) (x2 : Int32) (x3 : Int32) : wf (β := Int32) L X q_A_set 2 (cs_A_set f_A_forget f_World_change0) [4] [] (fun _ _ _ => fl) (fun v => match v with | some (_, .int x) => rt x | _ => fl) 19 0 [(111, .ref 0), (0, .int x1), (0, .int x2), (0, .int x3), (0, dV)] [] = (bn (f_World_change0 2 x1 x2 x3) fun v1 =>
  (if v1 = 0 then
    bn (gdZ v1) fun _ => rt v1
  else
    bn (f_A_forget) fun _ =>
    bn (gdZ v1) fun _ => rt v1)) := rfl
theorem s_A_set_0 {d : Nat} (hcs : AllS L X d (cs_A_set F_A_forget F_World_change0)) (x1 : Int32) (x2 : Int32) (x3 : Int32) {o : Option Value × PH} {Q : (Int32) → MI → Prop} (q0 : ∀ v I, Q v I → o = (some (.int v), HH I)) (I : MI) (r : Int32) (I1 : MI) (h : F_A_set x1 x2 x3 I = some (r, I1)) (hq : Q r I1) : At L X (d + 1) 22 0 [(111, .ref 0), (0, .int x1), (0, .int x2), (0, .int x3), (0, dV)] [] I o := by
  refine wf_ok z_A_set hcs ?_ ?_ _ _ _ _ _ ⟨rfl, trivial, trivial, trivial, trivial, trivial⟩ trivial (unm_refl _ _) ((congrFun (e_s_A_set_0 (L := L) (X := X) F_A_forget F_World_change0 x1 x2 x3) I).trans h)
  · intro pc ls st I2 h1 h2 h3 h
    cases h
  · intro v I2 _ h
    split at h
    · cases h; exact q0 _ _ hq
    · cases h
theorem w_A_set {d : Nat} (hcs : AllS L X d (cs_A_set F_A_forget F_World_change0)) : Snd L X (d + 1) 22 4 (W_A_set F_A_set) := by
  refine ⟨_, z_A_set, rfl, fun β args k I r hty hlen h => ?_⟩
  unfold W_A_set at h
  split at h
  · rename_i t0 a0 u1 a1 u2 a2 u3 a3
    obtain ⟨hb0, h⟩ := mB_ok h
    have e0 := Nat.eq_of_beq_eq_true hb0
    have g0 : okB 111 a0 = true := e0 ▸ hty.1
    have e20 := one_111 g0
    subst e20
    obtain ⟨v, I1, h1, h2⟩ := bn_some h
    refine ⟨gf_obj (c := 11) (by decide) g0, rfl, some (0, .int v), I1, trivial, ?_, h2⟩
    exact s_A_set_0 hcs a1 a2 a3  (Q := fun w I => w = v ∧ I = I1) (fun w I q => by obtain ⟨rfl, rfl⟩ := q; rfl) I v I1 h1 ⟨rfl, rfl⟩
  · cases h
theorem S_A_set {d : Nat} (hd : 4 ≤ d) : Snd L X d 22 4 (W_A_set F_A_set) := by
  obtain ⟨e, rfl⟩ : ∃ e, d = e + 1 := ⟨d - 1, by omega⟩
  exact w_A_set ⟨S_A_forget (by omega), S_World_change0 (by omega), trivial⟩
set_option maxRecDepth 100000 in
theorem z_Riddles_toGet : pT[180]? = some (q_Riddles_toGet, 2, 5, 1, 6) := rfl
def W_Riddles_toGet (F : Int32 → M Int32) : CSem := fun _ args k => match args with
  | [(t0, .ref a0), (_, .int a1)] => mB (Nat.beq t0 106) <| bn (F a1) fun v => k (some (0, .int v))
  | _ => fl
def cs_Riddles_toGet (f_Table_at : Nat → Int32 → Int32 → M Int32) : List (Nat × Nat × CSem) := [(36, 3, W_Table_at f_Table_at)]
def B_Riddles_toGet_4 (x1 : Int32) (y : Int32 × Int32) : M ((Int32 × Int32) ⊕ (Int32)) :=
  bn (rd 45 3) fun v1 =>
  (if y.2 < v1 then
    bn (F_Table_at 45 y.2 (2 : Int32)) fun v2 =>
    bn (F_Table_at 45 y.2 (0 : Int32)) fun v3 =>
    (if v3 = x1 then
      bn (F_Table_at 45 y.2 (1 : Int32)) fun v5 =>
      (if v5 = x1 then
        rt (.inl (((y.1 + v2) - v2), (y.2 + (1 : Int32))))
      else
        rt (.inl (((y.1 + v2) - (0 : Int32)), (y.2 + (1 : Int32)))))
    else
      bn (F_Table_at 45 y.2 (1 : Int32)) fun v4 =>
      (if v4 = x1 then
        rt (.inl (((y.1 + (0 : Int32)) - v2), (y.2 + (1 : Int32))))
      else
        rt (.inl (((y.1 + (0 : Int32)) - (0 : Int32)), (y.2 + (1 : Int32))))))
  else
    rt (.inr y.1))
set_option maxRecDepth 4000 in
theorem e_b_Riddles_toGet_4 (f_Table_at : Nat → Int32 → Int32 → M Int32) (x1 : Int32) (y : Int32 × Int32) : wf (β := (Int32 × Int32) ⊕ (Int32)) L X q_Riddles_toGet 1 (cs_Riddles_toGet f_Table_at) [2, 3, 4] [4] (fun pc ls st => mC (Nat.beq pc 4) (mN st <| gI ls 2 fun a2 => gI ls 3 fun a3 => gD ls 4 <| rt (.inl (a2, a3))) (fl)) (fun v => match v with | some (_, .int x) => rt (.inr x) | _ => fl) 54 4 [(106, .ref 195), (0, .int x1), (0, .int y.1), (0, .int y.2), (0, dV)] [] = (bn (rd 45 3) fun v1 =>
  (if y.2 < v1 then
    bn (f_Table_at 45 y.2 (2 : Int32)) fun v2 =>
    bn (f_Table_at 45 y.2 (0 : Int32)) fun v3 =>
    (if v3 = x1 then
      bn (f_Table_at 45 y.2 (1 : Int32)) fun v5 =>
      (if v5 = x1 then
        rt (.inl (((y.1 + v2) - v2), (y.2 + (1 : Int32))))
      else
        rt (.inl (((y.1 + v2) - (0 : Int32)), (y.2 + (1 : Int32)))))
    else
      bn (f_Table_at 45 y.2 (1 : Int32)) fun v4 =>
      (if v4 = x1 then
        rt (.inl (((y.1 + (0 : Int32)) - v2), (y.2 + (1 : Int32))))
      else
        rt (.inl (((y.1 + (0 : Int32)) - (0 : Int32)), (y.2 + (1 : Int32))))))
  else
    rt (.inr y.1))) := rfl
theorem b_Riddles_toGet_4 {d : Nat} (hcs : AllS L X d (cs_Riddles_toGet F_Table_at)) (x1 : Int32) {o : Option Value × PH} {Q : ((Int32 × Int32) ⊕ (Int32)) → MI → Prop} (qb : ∀ y I, Q (.inl y) I → At L X (d + 1) 180 4 [(106, .ref 195), (0, .int x1), (0, .int y.1), (0, .int y.2), (0, dV)] [] I o) (qr : ∀ v I, Q (.inr v) I → o = (some (.int v), HH I)) (y : Int32 × Int32) (I : MI) (r : (Int32 × Int32) ⊕ (Int32)) (I1 : MI) (h : B_Riddles_toGet_4 x1 y I = some (r, I1)) (hq : Q r I1) : At L X (d + 1) 180 4 [(106, .ref 195), (0, .int x1), (0, .int y.1), (0, .int y.2), (0, dV)] [] I o := by
  refine wf_ok z_Riddles_toGet hcs ?_ ?_ _ _ _ _ _ ⟨rfl, trivial, trivial, trivial, trivial, trivial⟩ trivial (unm_refl _ _) ((congrFun (e_b_Riddles_toGet_4 (L := L) (X := X) F_Table_at x1 y) I).trans h)
  · intro pc ls st I2 h1 h2 h3 h
    rcases mC_ok h with ⟨hb, h⟩ | ⟨_, h⟩
    · have e := Nat.eq_of_beq_eq_true hb
      subst e
      obtain ⟨hst, h⟩ := mN_ok h
      subst hst
      obtain ⟨a2, n2, h⟩ := gI_ok h
      obtain ⟨a3, n3, h⟩ := gI_ok h
      obtain ⟨n4, h⟩ := gD_ok h
      refine at_leaf (ls2 := [(106, .ref 195), (0, .int x1), (0, .int a2), (0, .int a3), (0, dV)]) h3.1 ⟨Or.inr ⟨_, (h3.2 0 rfl).trans rfl⟩, Or.inr ⟨_, (h3.2 1 rfl).trans rfl⟩, Or.inr n2, Or.inr n3, Or.inl ⟨rfl, n4⟩, trivial⟩ ?_
      cases h; exact qb _ _ hq
    cases h
  · intro v I2 _ h
    split at h
    · cases h; exact qr _ _ hq
    · cases h
def K_Riddles_toGet_4 (x1 : Int32) (x2 : Int32) (x3 : Int32) : M (Int32) :=
  lp (B_Riddles_toGet_4 x1) FU (x2, x3)
theorem s_Riddles_toGet_4 {d : Nat} (hcs : AllS L X d (cs_Riddles_toGet F_Table_at)) (x1 : Int32) (x2 : Int32) (x3 : Int32) {o : Option Value × PH} {Q : (Int32) → MI → Prop} (q0 : ∀ v I, Q v I → o = (some (.int v), HH I)) (I : MI) (r : Int32) (I1 : MI) (h : K_Riddles_toGet_4 x1 x2 x3 I = some (r, I1)) (hq : Q r I1) : At L X (d + 1) 180 4 [(106, .ref 195), (0, .int x1), (0, .int x2), (0, .int x3), (0, dV)] [] I o := by
  unfold K_Riddles_toGet_4 at h
  have w0 := fun w => at_lp (body := B_Riddles_toGet_4 x1) (P := (fun (y : Int32 × Int32) I => At L X (d + 1) 180 4 [(106, .ref 195), (0, .int x1), (0, .int y.1), (0, .int y.2), (0, dV)] [] I o)) (Q := (fun (e : Int32) I => Q e I)) w FU (x2, x3) I r I1 h hq
  refine w0 ?_
  intro y I r I1 h hq
  exact b_Riddles_toGet_4 hcs x1 (Q := SQ (fun (y : Int32 × Int32) I => At L X (d + 1) 180 4 [(106, .ref 195), (0, .int x1), (0, .int y.1), (0, .int y.2), (0, dV)] [] I o) (fun (e : Int32) I => Q e I)) (fun _ _ w => w) q0 y I r I1 h hq
def F_Riddles_toGet (x1 : Int32) : M (Int32) :=
  K_Riddles_toGet_4 x1 (0 : Int32) (0 : Int32)
set_option maxRecDepth 4000 in
theorem e_s_Riddles_toGet_0 (f_Table_at : Nat → Int32 → Int32 → M Int32) (k_4 : Int32 → Int32 → Int32 → M (Int32)) (x1 : Int32) : wf (β := Int32) L X q_Riddles_toGet 1 (cs_Riddles_toGet f_Table_at) [2, 3] [4] (fun pc ls st => mC (Nat.beq pc 4) (mN st <| gI ls 2 fun a2 => gI ls 3 fun a3 => gD ls 4 <| k_4 x1 a2 a3) (fl)) (fun v => match v with | some (_, .int x) => rt x | _ => fl) 54 0 [(106, .ref 195), (0, .int x1), (0, dV), (0, dV), (0, dV)] [] = (k_4 x1 (0 : Int32) (0 : Int32)) := rfl
theorem s_Riddles_toGet_0 {d : Nat} (hcs : AllS L X d (cs_Riddles_toGet F_Table_at)) (x1 : Int32) {o : Option Value × PH} {Q : (Int32) → MI → Prop} (q0 : ∀ v I, Q v I → o = (some (.int v), HH I)) (I : MI) (r : Int32) (I1 : MI) (h : F_Riddles_toGet x1 I = some (r, I1)) (hq : Q r I1) : At L X (d + 1) 180 0 [(106, .ref 195), (0, .int x1), (0, dV), (0, dV), (0, dV)] [] I o := by
  refine wf_ok z_Riddles_toGet hcs ?_ ?_ _ _ _ _ _ ⟨rfl, trivial, trivial, trivial, trivial, trivial⟩ trivial (unm_refl _ _) ((congrFun (e_s_Riddles_toGet_0 (L := L) (X := X) F_Table_at K_Riddles_toGet_4 x1) I).trans h)
  · intro pc ls st I2 h1 h2 h3 h
    rcases mC_ok h with ⟨hb, h⟩ | ⟨_, h⟩
    · have e := Nat.eq_of_beq_eq_true hb
      subst e
      obtain ⟨hst, h⟩ := mN_ok h
      subst hst
      obtain ⟨a2, n2, h⟩ := gI_ok h
      obtain ⟨a3, n3, h⟩ := gI_ok h
      obtain ⟨n4, h⟩ := gD_ok h
      refine at_leaf (ls2 := [(106, .ref 195), (0, .int x1), (0, .int a2), (0, .int a3), (0, dV)]) h3.1 ⟨Or.inr ⟨_, (h3.2 0 rfl).trans rfl⟩, Or.inr ⟨_, (h3.2 1 rfl).trans rfl⟩, Or.inr n2, Or.inr n3, Or.inl ⟨rfl, n4⟩, trivial⟩ ?_
      exact s_Riddles_toGet_4 hcs x1 a2 a3 q0 _ _ _ h hq
    cases h
  · intro v I2 _ h
    split at h
    · cases h; exact q0 _ _ hq
    · cases h
theorem w_Riddles_toGet {d : Nat} (hcs : AllS L X d (cs_Riddles_toGet F_Table_at)) : Snd L X (d + 1) 180 2 (W_Riddles_toGet F_Riddles_toGet) := by
  refine ⟨_, z_Riddles_toGet, rfl, fun β args k I r hty hlen h => ?_⟩
  unfold W_Riddles_toGet at h
  split at h
  · rename_i t0 a0 u1 a1
    obtain ⟨hb0, h⟩ := mB_ok h
    have e0 := Nat.eq_of_beq_eq_true hb0
    have g0 : okB 106 a0 = true := e0 ▸ hty.1
    have e20 := one_106 g0
    subst e20
    obtain ⟨v, I1, h1, h2⟩ := bn_some h
    refine ⟨gf_obj (c := 6) (by decide) g0, rfl, some (0, .int v), I1, trivial, ?_, h2⟩
    exact s_Riddles_toGet_0 hcs a1  (Q := fun w I => w = v ∧ I = I1) (fun w I q => by obtain ⟨rfl, rfl⟩ := q; rfl) I v I1 h1 ⟨rfl, rfl⟩
  · cases h
theorem S_Riddles_toGet {d : Nat} (hd : 2 ≤ d) : Snd L X d 180 2 (W_Riddles_toGet F_Riddles_toGet) := by
  obtain ⟨e, rfl⟩ : ∃ e, d = e + 1 := ⟨d - 1, by omega⟩
  exact w_Riddles_toGet ⟨S_Table_at (by omega), trivial⟩
set_option maxRecDepth 100000 in
theorem z_Riddles_fewestGifts : pT[179]? = some (q_Riddles_fewestGifts, 1, 5, 1, 6) := rfl
def W_Riddles_fewestGifts (F : M Int32) : CSem := fun _ args k => match args with
  | [(t0, .ref a0)] => mB (Nat.beq t0 106) <| bn (F) fun v => k (some (0, .int v))
  | _ => fl
def cs_Riddles_fewestGifts (f_Riddles_toGet : Int32 → M Int32) : List (Nat × Nat × CSem) := [(180, 2, W_Riddles_toGet f_Riddles_toGet)]
def B_Riddles_fewestGifts_2 (y : Int32) : M ((Int32) ⊕ ((Unit))) :=
  (if y < (6 : Int32) then
    bn (F_Riddles_toGet y) fun v1 =>
    bn (sr 6 204 y v1) fun _ =>
    rt (.inl (y + (1 : Int32)))
  else
    rt (.inr ()))
set_option maxRecDepth 4000 in
theorem e_b_Riddles_fewestGifts_2 (f_Riddles_toGet : Int32 → M Int32) (y : Int32) : wf (β := (Int32) ⊕ ((Unit))) L X q_Riddles_fewestGifts 1 (cs_Riddles_fewestGifts f_Riddles_toGet) [1] [2, 25, 34, 47, 95] (fun pc ls st => mC (Nat.beq pc 2) (mN st <| gI ls 1 fun a1 => gD ls 2 <| gD ls 3 <| gD ls 4 <| rt (.inl a1)) (mC (Nat.beq pc 25) (mN st <| gD ls 1 <| gD ls 2 <| gD ls 3 <| gD ls 4 <| rt (.inr ())) (fl))) (fun _ => fl) 84 2 [(106, .ref 195), (0, .int y), (0, dV), (0, dV), (0, dV)] [] = ((if y < (6 : Int32) then
    bn (f_Riddles_toGet y) fun v1 =>
    bn (sr 6 204 y v1) fun _ =>
    rt (.inl (y + (1 : Int32)))
  else
    rt (.inr ()))) := rfl
theorem b_Riddles_fewestGifts_2 {d : Nat} (hcs : AllS L X d (cs_Riddles_fewestGifts F_Riddles_toGet)) {o : Option Value × PH} {Q : ((Int32) ⊕ ((Unit))) → MI → Prop} (qb : ∀ y I, Q (.inl y) I → At L X (d + 1) 179 2 [(106, .ref 195), (0, .int y), (0, dV), (0, dV), (0, dV)] [] I o) (qe25 : ∀ y I, Q (.inr y) I → At L X (d + 1) 179 25 [(106, .ref 195), (0, dV), (0, dV), (0, dV), (0, dV)] [] I o) (y : Int32) (I : MI) (r : (Int32) ⊕ ((Unit))) (I1 : MI) (h : B_Riddles_fewestGifts_2 y I = some (r, I1)) (hq : Q r I1) : At L X (d + 1) 179 2 [(106, .ref 195), (0, .int y), (0, dV), (0, dV), (0, dV)] [] I o := by
  refine wf_ok z_Riddles_fewestGifts hcs ?_ ?_ _ _ _ _ _ ⟨rfl, trivial, trivial, trivial, trivial, trivial⟩ trivial (unm_refl _ _) ((congrFun (e_b_Riddles_fewestGifts_2 (L := L) (X := X) F_Riddles_toGet y) I).trans h)
  · intro pc ls st I2 h1 h2 h3 h
    rcases mC_ok h with ⟨hb, h⟩ | ⟨_, h⟩
    · have e := Nat.eq_of_beq_eq_true hb
      subst e
      obtain ⟨hst, h⟩ := mN_ok h
      subst hst
      obtain ⟨a1, n1, h⟩ := gI_ok h
      obtain ⟨n2, h⟩ := gD_ok h
      obtain ⟨n3, h⟩ := gD_ok h
      obtain ⟨n4, h⟩ := gD_ok h
      refine at_leaf (ls2 := [(106, .ref 195), (0, .int a1), (0, dV), (0, dV), (0, dV)]) h3.1 ⟨Or.inr ⟨_, (h3.2 0 rfl).trans rfl⟩, Or.inr n1, Or.inl ⟨rfl, n2⟩, Or.inl ⟨rfl, n3⟩, Or.inl ⟨rfl, n4⟩, trivial⟩ ?_
      cases h; exact qb _ _ hq
    rcases mC_ok h with ⟨hb, h⟩ | ⟨_, h⟩
    · have e := Nat.eq_of_beq_eq_true hb
      subst e
      obtain ⟨hst, h⟩ := mN_ok h
      subst hst
      obtain ⟨n1, h⟩ := gD_ok h
      obtain ⟨n2, h⟩ := gD_ok h
      obtain ⟨n3, h⟩ := gD_ok h
      obtain ⟨n4, h⟩ := gD_ok h
      refine at_leaf (ls2 := [(106, .ref 195), (0, dV), (0, dV), (0, dV), (0, dV)]) h3.1 ⟨Or.inr ⟨_, (h3.2 0 rfl).trans rfl⟩, Or.inl ⟨rfl, n1⟩, Or.inl ⟨rfl, n2⟩, Or.inl ⟨rfl, n3⟩, Or.inl ⟨rfl, n4⟩, trivial⟩ ?_
      cases h; exact qe25 _ _ hq
    cases h
  · intro v I2 _ h
    cases h
def B_Riddles_fewestGifts_47 (x1 : Int32) (y : Int32 × Int32 × Int32) : M ((Int32 × Int32 × Int32) ⊕ ((Int32 × Int32))) :=
  (if y.2.2 < (6 : Int32) then
    (if ((x1 >>> (y.2.2 &&& 31)) &&& (1 : Int32)) = 0 then
      rt (.inl (y.1, y.2.1, (y.2.2 + (1 : Int32))))
    else
      bn (ld 6 204 y.2.2) fun v1 =>
      bn (ld 64 205 (x1 ^^^ ((1 : Int32) <<< (y.2.2 &&& 31)))) fun v2 =>
      rt (.inl ((y.1 + v1), (if y.2.1 < v2 then v2 else y.2.1), (y.2.2 + (1 : Int32)))))
  else
    rt (.inr (y.1, y.2.1)))
set_option maxRecDepth 4000 in
theorem e_b_Riddles_fewestGifts_47 (f_Riddles_toGet : Int32 → M Int32) (x1 : Int32) (y : Int32 × Int32 × Int32) : wf (β := (Int32 × Int32 × Int32) ⊕ ((Int32 × Int32))) L X q_Riddles_fewestGifts 1 (cs_Riddles_fewestGifts f_Riddles_toGet) [2, 3, 4] [2, 25, 34, 47, 95] (fun pc ls st => mC (Nat.beq pc 47) (mN st <| gI ls 2 fun a2 => gI ls 3 fun a3 => gI ls 4 fun a4 => rt (.inl (a2, a3, a4))) (mC (Nat.beq pc 95) (mN st <| gI ls 2 fun a2 => gI ls 3 fun a3 => gD ls 4 <| rt (.inr (a2, a3))) (fl))) (fun _ => fl) 84 47 [(106, .ref 195), (0, .int x1), (0, .int y.1), (0, .int y.2.1), (0, .int y.2.2)] [] = ((if y.2.2 < (6 : Int32) then
    (if ((x1 >>> (y.2.2 &&& 31)) &&& (1 : Int32)) = 0 then
      rt (.inl (y.1, y.2.1, (y.2.2 + (1 : Int32))))
    else
      bn (ld 6 204 y.2.2) fun v1 =>
      bn (ld 64 205 (x1 ^^^ ((1 : Int32) <<< (y.2.2 &&& 31)))) fun v2 =>
      rt (.inl ((y.1 + v1), (if y.2.1 < v2 then v2 else y.2.1), (y.2.2 + (1 : Int32)))))
  else
    rt (.inr (y.1, y.2.1)))) := rfl
theorem b_Riddles_fewestGifts_47 {d : Nat} (hcs : AllS L X d (cs_Riddles_fewestGifts F_Riddles_toGet)) (x1 : Int32) {o : Option Value × PH} {Q : ((Int32 × Int32 × Int32) ⊕ ((Int32 × Int32))) → MI → Prop} (qb : ∀ y I, Q (.inl y) I → At L X (d + 1) 179 47 [(106, .ref 195), (0, .int x1), (0, .int y.1), (0, .int y.2.1), (0, .int y.2.2)] [] I o) (qe95 : ∀ y I, Q (.inr y) I → At L X (d + 1) 179 95 [(106, .ref 195), (0, .int x1), (0, .int y.1), (0, .int y.2), (0, dV)] [] I o) (y : Int32 × Int32 × Int32) (I : MI) (r : (Int32 × Int32 × Int32) ⊕ ((Int32 × Int32))) (I1 : MI) (h : B_Riddles_fewestGifts_47 x1 y I = some (r, I1)) (hq : Q r I1) : At L X (d + 1) 179 47 [(106, .ref 195), (0, .int x1), (0, .int y.1), (0, .int y.2.1), (0, .int y.2.2)] [] I o := by
  refine wf_ok z_Riddles_fewestGifts hcs ?_ ?_ _ _ _ _ _ ⟨rfl, trivial, trivial, trivial, trivial, trivial⟩ trivial (unm_refl _ _) ((congrFun (e_b_Riddles_fewestGifts_47 (L := L) (X := X) F_Riddles_toGet x1 y) I).trans h)
  · intro pc ls st I2 h1 h2 h3 h
    rcases mC_ok h with ⟨hb, h⟩ | ⟨_, h⟩
    · have e := Nat.eq_of_beq_eq_true hb
      subst e
      obtain ⟨hst, h⟩ := mN_ok h
      subst hst
      obtain ⟨a2, n2, h⟩ := gI_ok h
      obtain ⟨a3, n3, h⟩ := gI_ok h
      obtain ⟨a4, n4, h⟩ := gI_ok h
      refine at_leaf (ls2 := [(106, .ref 195), (0, .int x1), (0, .int a2), (0, .int a3), (0, .int a4)]) h3.1 ⟨Or.inr ⟨_, (h3.2 0 rfl).trans rfl⟩, Or.inr ⟨_, (h3.2 1 rfl).trans rfl⟩, Or.inr n2, Or.inr n3, Or.inr n4, trivial⟩ ?_
      cases h; exact qb _ _ hq
    rcases mC_ok h with ⟨hb, h⟩ | ⟨_, h⟩
    · have e := Nat.eq_of_beq_eq_true hb
      subst e
      obtain ⟨hst, h⟩ := mN_ok h
      subst hst
      obtain ⟨a2, n2, h⟩ := gI_ok h
      obtain ⟨a3, n3, h⟩ := gI_ok h
      obtain ⟨n4, h⟩ := gD_ok h
      refine at_leaf (ls2 := [(106, .ref 195), (0, .int x1), (0, .int a2), (0, .int a3), (0, dV)]) h3.1 ⟨Or.inr ⟨_, (h3.2 0 rfl).trans rfl⟩, Or.inr ⟨_, (h3.2 1 rfl).trans rfl⟩, Or.inr n2, Or.inr n3, Or.inl ⟨rfl, n4⟩, trivial⟩ ?_
      cases h; exact qe95 _ _ hq
    cases h
  · intro v I2 _ h
    cases h
def K_Riddles_fewestGifts_95 (x1 : Int32) (x2 : Int32) (x3 : Int32) : M ((Int32) ⊕ (Int32)) :=
  (if x2 = 0 then
    bn (sr 64 205 x1 (x3 + (1 : Int32))) fun _ =>
    rt (.inl (x1 + (1 : Int32)))
  else
    bn (sr 64 205 x1 (x3 + (0 : Int32))) fun _ =>
    rt (.inl (x1 + (1 : Int32))))
set_option maxRecDepth 4000 in
theorem e_s_Riddles_fewestGifts_95 (f_Riddles_toGet : Int32 → M Int32) (x1 : Int32) (x2 : Int32) (x3 : Int32) : wf (β := (Int32) ⊕ (Int32)) L X q_Riddles_fewestGifts 1 (cs_Riddles_fewestGifts f_Riddles_toGet) [1] [2, 25, 34, 47, 95] (fun pc ls st => mC (Nat.beq pc 34) (mN st <| gI ls 1 fun a1 => gD ls 2 <| gD ls 3 <| gD ls 4 <| rt (.inl a1)) (fl)) (fun v => match v with | some (_, .int x) => rt (.inr x) | _ => fl) 84 95 [(106, .ref 195), (0, .int x1), (0, .int x2), (0, .int x3), (0, dV)] [] = ((if x2 = 0 then
    bn (sr 64 205 x1 (x3 + (1 : Int32))) fun _ =>
    rt (.inl (x1 + (1 : Int32)))
  else
    bn (sr 64 205 x1 (x3 + (0 : Int32))) fun _ =>
    rt (.inl (x1 + (1 : Int32))))) := rfl
theorem s_Riddles_fewestGifts_95 {d : Nat} (hcs : AllS L X d (cs_Riddles_fewestGifts F_Riddles_toGet)) (x1 : Int32) (x2 : Int32) (x3 : Int32) {o : Option Value × PH} {Q : ((Int32) ⊕ (Int32)) → MI → Prop} (qb : ∀ y I, Q (.inl y) I → At L X (d + 1) 179 34 [(106, .ref 195), (0, .int y), (0, dV), (0, dV), (0, dV)] [] I o) (qr : ∀ v I, Q (.inr v) I → o = (some (.int v), HH I)) (I : MI) (r : (Int32) ⊕ (Int32)) (I1 : MI) (h : K_Riddles_fewestGifts_95 x1 x2 x3 I = some (r, I1)) (hq : Q r I1) : At L X (d + 1) 179 95 [(106, .ref 195), (0, .int x1), (0, .int x2), (0, .int x3), (0, dV)] [] I o := by
  refine wf_ok z_Riddles_fewestGifts hcs ?_ ?_ _ _ _ _ _ ⟨rfl, trivial, trivial, trivial, trivial, trivial⟩ trivial (unm_refl _ _) ((congrFun (e_s_Riddles_fewestGifts_95 (L := L) (X := X) F_Riddles_toGet x1 x2 x3) I).trans h)
  · intro pc ls st I2 h1 h2 h3 h
    rcases mC_ok h with ⟨hb, h⟩ | ⟨_, h⟩
    · have e := Nat.eq_of_beq_eq_true hb
      subst e
      obtain ⟨hst, h⟩ := mN_ok h
      subst hst
      obtain ⟨a1, n1, h⟩ := gI_ok h
      obtain ⟨n2, h⟩ := gD_ok h
      obtain ⟨n3, h⟩ := gD_ok h
      obtain ⟨n4, h⟩ := gD_ok h
      refine at_leaf (ls2 := [(106, .ref 195), (0, .int a1), (0, dV), (0, dV), (0, dV)]) h3.1 ⟨Or.inr ⟨_, (h3.2 0 rfl).trans rfl⟩, Or.inr n1, Or.inl ⟨rfl, n2⟩, Or.inl ⟨rfl, n3⟩, Or.inl ⟨rfl, n4⟩, trivial⟩ ?_
      cases h; exact qb _ _ hq
    cases h
  · intro v I2 _ h
    split at h
    · cases h; exact qr _ _ hq
    · cases h
def K_Riddles_fewestGifts_47 (x1 : Int32) (x2 : Int32) (x3 : Int32) (x4 : Int32) : M ((Int32) ⊕ (Int32)) :=
  bn (lp (B_Riddles_fewestGifts_47 x1) FU (x2, x3, x4)) fun e => K_Riddles_fewestGifts_95 x1 e.1 e.2
theorem s_Riddles_fewestGifts_47 {d : Nat} (hcs : AllS L X d (cs_Riddles_fewestGifts F_Riddles_toGet)) (x1 : Int32) (x2 : Int32) (x3 : Int32) (x4 : Int32) {o : Option Value × PH} {Q : ((Int32) ⊕ (Int32)) → MI → Prop} (qb : ∀ y I, Q (.inl y) I → At L X (d + 1) 179 34 [(106, .ref 195), (0, .int y), (0, dV), (0, dV), (0, dV)] [] I o) (qr : ∀ v I, Q (.inr v) I → o = (some (.int v), HH I)) (I : MI) (r : (Int32) ⊕ (Int32)) (I1 : MI) (h : K_Riddles_fewestGifts_47 x1 x2 x3 x4 I = some (r, I1)) (hq : Q r I1) : At L X (d + 1) 179 47 [(106, .ref 195), (0, .int x1), (0, .int x2), (0, .int x3), (0, .int x4)] [] I o := by
  unfold K_Riddles_fewestGifts_47 at h
  obtain ⟨e, I2, h1, h2⟩ := bn_some h
  have w0 := fun w => at_lp (body := B_Riddles_fewestGifts_47 x1) (P := (fun (y : Int32 × Int32 × Int32) I => At L X (d + 1) 179 47 [(106, .ref 195), (0, .int x1), (0, .int y.1), (0, .int y.2.1), (0, .int y.2.2)] [] I o)) (Q := (fun (e : (Int32 × Int32)) I => (K_Riddles_fewestGifts_95 x1 e.1 e.2) I = some (r, I1))) w FU (x2, x3, x4) I e I2 h1 h2
  refine w0 ?_
  intro y I r2 I3 h hq2
  exact b_Riddles_fewestGifts_47 hcs x1 (Q := SQ (fun (y : Int32 × Int32 × Int32) I => At L X (d + 1) 179 47 [(106, .ref 195), (0, .int x1), (0, .int y.1), (0, .int y.2.1), (0, .int y.2.2)] [] I o) (fun (e : (Int32 × Int32)) I => (K_Riddles_fewestGifts_95 x1 e.1 e.2) I = some (r, I1))) (fun _ _ w => w) (fun y I w => s_Riddles_fewestGifts_95 hcs x1 y.1 y.2 qb qr _ _ _ w hq) y I r2 I3 h hq2
def B_Riddles_fewestGifts_34 (y : Int32) : M ((Int32) ⊕ (Int32)) :=
  (if y < (64 : Int32) then
    K_Riddles_fewestGifts_47 y (0 : Int32) (0 : Int32) (0 : Int32)
  else
    bn (ld 64 205 (63 : Int32)) fun v1 =>
    rt (.inr ((6 : Int32) - v1)))
set_option maxRecDepth 4000 in
theorem e_b_Riddles_fewestGifts_34 (f_Riddles_toGet : Int32 → M Int32) (k_47 : Int32 → Int32 → Int32 → Int32 → M ((Int32) ⊕ (Int32))) (y : Int32) : wf (β := (Int32) ⊕ (Int32)) L X q_Riddles_fewestGifts 1 (cs_Riddles_fewestGifts f_Riddles_toGet) [2, 3, 4] [2, 25, 34, 47, 95] (fun pc ls st => mC (Nat.beq pc 47) (mN st <| gI ls 2 fun a2 => gI ls 3 fun a3 => gI ls 4 fun a4 => k_47 y a2 a3 a4) (fl)) (fun v => match v with | some (_, .int x) => rt (.inr x) | _ => fl) 84 34 [(106, .ref 195), (0, .int y), (0, dV), (0, dV), (0, dV)] [] = ((if y < (64 : Int32) then
    k_47 y (0 : Int32) (0 : Int32) (0 : Int32)
  else
    bn (ld 64 205 (63 : Int32)) fun v1 =>
    rt (.inr ((6 : Int32) - v1)))) := rfl
theorem b_Riddles_fewestGifts_34 {d : Nat} (hcs : AllS L X d (cs_Riddles_fewestGifts F_Riddles_toGet)) {o : Option Value × PH} {Q : ((Int32) ⊕ (Int32)) → MI → Prop} (qb : ∀ y I, Q (.inl y) I → At L X (d + 1) 179 34 [(106, .ref 195), (0, .int y), (0, dV), (0, dV), (0, dV)] [] I o) (qr : ∀ v I, Q (.inr v) I → o = (some (.int v), HH I)) (y : Int32) (I : MI) (r : (Int32) ⊕ (Int32)) (I1 : MI) (h : B_Riddles_fewestGifts_34 y I = some (r, I1)) (hq : Q r I1) : At L X (d + 1) 179 34 [(106, .ref 195), (0, .int y), (0, dV), (0, dV), (0, dV)] [] I o := by
  refine wf_ok z_Riddles_fewestGifts hcs ?_ ?_ _ _ _ _ _ ⟨rfl, trivial, trivial, trivial, trivial, trivial⟩ trivial (unm_refl _ _) ((congrFun (e_b_Riddles_fewestGifts_34 (L := L) (X := X) F_Riddles_toGet K_Riddles_fewestGifts_47 y) I).trans h)
  · intro pc ls st I2 h1 h2 h3 h
    rcases mC_ok h with ⟨hb, h⟩ | ⟨_, h⟩
    · have e := Nat.eq_of_beq_eq_true hb
      subst e
      obtain ⟨hst, h⟩ := mN_ok h
      subst hst
      obtain ⟨a2, n2, h⟩ := gI_ok h
      obtain ⟨a3, n3, h⟩ := gI_ok h
      obtain ⟨a4, n4, h⟩ := gI_ok h
      refine at_leaf (ls2 := [(106, .ref 195), (0, .int y), (0, .int a2), (0, .int a3), (0, .int a4)]) h3.1 ⟨Or.inr ⟨_, (h3.2 0 rfl).trans rfl⟩, Or.inr ⟨_, (h3.2 1 rfl).trans rfl⟩, Or.inr n2, Or.inr n3, Or.inr n4, trivial⟩ ?_
      exact s_Riddles_fewestGifts_47 hcs y a2 a3 a4 qb qr _ _ _ h hq
    cases h
  · intro v I2 _ h
    split at h
    · cases h; exact qr _ _ hq
    · cases h
def K_Riddles_fewestGifts_34 (x1 : Int32) : M (Int32) :=
  lp (B_Riddles_fewestGifts_34) FU x1
theorem s_Riddles_fewestGifts_34 {d : Nat} (hcs : AllS L X d (cs_Riddles_fewestGifts F_Riddles_toGet)) (x1 : Int32) {o : Option Value × PH} {Q : (Int32) → MI → Prop} (q0 : ∀ v I, Q v I → o = (some (.int v), HH I)) (I : MI) (r : Int32) (I1 : MI) (h : K_Riddles_fewestGifts_34 x1 I = some (r, I1)) (hq : Q r I1) : At L X (d + 1) 179 34 [(106, .ref 195), (0, .int x1), (0, dV), (0, dV), (0, dV)] [] I o := by
  unfold K_Riddles_fewestGifts_34 at h
  have w0 := fun w => at_lp (body := B_Riddles_fewestGifts_34) (P := (fun (y : Int32) I => At L X (d + 1) 179 34 [(106, .ref 195), (0, .int y), (0, dV), (0, dV), (0, dV)] [] I o)) (Q := (fun (e : Int32) I => Q e I)) w FU x1 I r I1 h hq
  refine w0 ?_
  intro y I r I1 h hq
  exact b_Riddles_fewestGifts_34 hcs (Q := SQ (fun (y : Int32) I => At L X (d + 1) 179 34 [(106, .ref 195), (0, .int y), (0, dV), (0, dV), (0, dV)] [] I o) (fun (e : Int32) I => Q e I)) (fun _ _ w => w) q0 y I r I1 h hq
def K_Riddles_fewestGifts_25 : M (Int32) :=
  bn (sr 64 205 (0 : Int32) (0 : Int32)) fun _ =>
  K_Riddles_fewestGifts_34 (1 : Int32)
set_option maxRecDepth 4000 in
theorem e_s_Riddles_fewestGifts_25 (f_Riddles_toGet : Int32 → M Int32) (k_34 : Int32 → M (Int32)) : wf (β := Int32) L X q_Riddles_fewestGifts 1 (cs_Riddles_fewestGifts f_Riddles_toGet) [1] [2, 25, 34, 47, 95] (fun pc ls st => mC (Nat.beq pc 34) (mN st <| gI ls 1 fun a1 => gD ls 2 <| gD ls 3 <| gD ls 4 <| k_34 a1) (fl)) (fun v => match v with | some (_, .int x) => rt x | _ => fl) 84 25 [(106, .ref 195), (0, dV), (0, dV), (0, dV), (0, dV)] [] = (bn (sr 64 205 (0 : Int32) (0 : Int32)) fun _ =>
  k_34 (1 : Int32)) := rfl
theorem s_Riddles_fewestGifts_25 {d : Nat} (hcs : AllS L X d (cs_Riddles_fewestGifts F_Riddles_toGet)) {o : Option Value × PH} {Q : (Int32) → MI → Prop} (q0 : ∀ v I, Q v I → o = (some (.int v), HH I)) (I : MI) (r : Int32) (I1 : MI) (h : K_Riddles_fewestGifts_25 I = some (r, I1)) (hq : Q r I1) : At L X (d + 1) 179 25 [(106, .ref 195), (0, dV), (0, dV), (0, dV), (0, dV)] [] I o := by
  refine wf_ok z_Riddles_fewestGifts hcs ?_ ?_ _ _ _ _ _ ⟨rfl, trivial, trivial, trivial, trivial, trivial⟩ trivial (unm_refl _ _) ((congrFun (e_s_Riddles_fewestGifts_25 (L := L) (X := X) F_Riddles_toGet K_Riddles_fewestGifts_34) I).trans h)
  · intro pc ls st I2 h1 h2 h3 h
    rcases mC_ok h with ⟨hb, h⟩ | ⟨_, h⟩
    · have e := Nat.eq_of_beq_eq_true hb
      subst e
      obtain ⟨hst, h⟩ := mN_ok h
      subst hst
      obtain ⟨a1, n1, h⟩ := gI_ok h
      obtain ⟨n2, h⟩ := gD_ok h
      obtain ⟨n3, h⟩ := gD_ok h
      obtain ⟨n4, h⟩ := gD_ok h
      refine at_leaf (ls2 := [(106, .ref 195), (0, .int a1), (0, dV), (0, dV), (0, dV)]) h3.1 ⟨Or.inr ⟨_, (h3.2 0 rfl).trans rfl⟩, Or.inr n1, Or.inl ⟨rfl, n2⟩, Or.inl ⟨rfl, n3⟩, Or.inl ⟨rfl, n4⟩, trivial⟩ ?_
      exact s_Riddles_fewestGifts_34 hcs a1 q0 _ _ _ h hq
    cases h
  · intro v I2 _ h
    split at h
    · cases h; exact q0 _ _ hq
    · cases h
def K_Riddles_fewestGifts_2 (x1 : Int32) : M (Int32) :=
  bn (lp (B_Riddles_fewestGifts_2) FU x1) fun e => K_Riddles_fewestGifts_25
theorem s_Riddles_fewestGifts_2 {d : Nat} (hcs : AllS L X d (cs_Riddles_fewestGifts F_Riddles_toGet)) (x1 : Int32) {o : Option Value × PH} {Q : (Int32) → MI → Prop} (q0 : ∀ v I, Q v I → o = (some (.int v), HH I)) (I : MI) (r : Int32) (I1 : MI) (h : K_Riddles_fewestGifts_2 x1 I = some (r, I1)) (hq : Q r I1) : At L X (d + 1) 179 2 [(106, .ref 195), (0, .int x1), (0, dV), (0, dV), (0, dV)] [] I o := by
  unfold K_Riddles_fewestGifts_2 at h
  obtain ⟨e, I2, h1, h2⟩ := bn_some h
  have w0 := fun w => at_lp (body := B_Riddles_fewestGifts_2) (P := (fun (y : Int32) I => At L X (d + 1) 179 2 [(106, .ref 195), (0, .int y), (0, dV), (0, dV), (0, dV)] [] I o)) (Q := (fun (e : (Unit)) I => (K_Riddles_fewestGifts_25) I = some (r, I1))) w FU x1 I e I2 h1 h2
  refine w0 ?_
  intro y I r2 I3 h hq2
  exact b_Riddles_fewestGifts_2 hcs (Q := SQ (fun (y : Int32) I => At L X (d + 1) 179 2 [(106, .ref 195), (0, .int y), (0, dV), (0, dV), (0, dV)] [] I o) (fun (e : (Unit)) I => (K_Riddles_fewestGifts_25) I = some (r, I1))) (fun _ _ w => w) (fun y I w => s_Riddles_fewestGifts_25 hcs q0 _ _ _ w hq) y I r2 I3 h hq2
def F_Riddles_fewestGifts : M (Int32) :=
  K_Riddles_fewestGifts_2 (0 : Int32)
set_option maxRecDepth 4000 in
theorem e_s_Riddles_fewestGifts_0 (f_Riddles_toGet : Int32 → M Int32) (k_2 : Int32 → M (Int32)) : wf (β := Int32) L X q_Riddles_fewestGifts 1 (cs_Riddles_fewestGifts f_Riddles_toGet) [1] [2, 25, 34, 47, 95] (fun pc ls st => mC (Nat.beq pc 2) (mN st <| gI ls 1 fun a1 => gD ls 2 <| gD ls 3 <| gD ls 4 <| k_2 a1) (fl)) (fun v => match v with | some (_, .int x) => rt x | _ => fl) 84 0 [(106, .ref 195), (0, dV), (0, dV), (0, dV), (0, dV)] [] = (k_2 (0 : Int32)) := rfl
theorem s_Riddles_fewestGifts_0 {d : Nat} (hcs : AllS L X d (cs_Riddles_fewestGifts F_Riddles_toGet)) {o : Option Value × PH} {Q : (Int32) → MI → Prop} (q0 : ∀ v I, Q v I → o = (some (.int v), HH I)) (I : MI) (r : Int32) (I1 : MI) (h : F_Riddles_fewestGifts I = some (r, I1)) (hq : Q r I1) : At L X (d + 1) 179 0 [(106, .ref 195), (0, dV), (0, dV), (0, dV), (0, dV)] [] I o := by
  refine wf_ok z_Riddles_fewestGifts hcs ?_ ?_ _ _ _ _ _ ⟨rfl, trivial, trivial, trivial, trivial, trivial⟩ trivial (unm_refl _ _) ((congrFun (e_s_Riddles_fewestGifts_0 (L := L) (X := X) F_Riddles_toGet K_Riddles_fewestGifts_2) I).trans h)
  · intro pc ls st I2 h1 h2 h3 h
    rcases mC_ok h with ⟨hb, h⟩ | ⟨_, h⟩
    · have e := Nat.eq_of_beq_eq_true hb
      subst e
      obtain ⟨hst, h⟩ := mN_ok h
      subst hst
      obtain ⟨a1, n1, h⟩ := gI_ok h
      obtain ⟨n2, h⟩ := gD_ok h
      obtain ⟨n3, h⟩ := gD_ok h
      obtain ⟨n4, h⟩ := gD_ok h
      refine at_leaf (ls2 := [(106, .ref 195), (0, .int a1), (0, dV), (0, dV), (0, dV)]) h3.1 ⟨Or.inr ⟨_, (h3.2 0 rfl).trans rfl⟩, Or.inr n1, Or.inl ⟨rfl, n2⟩, Or.inl ⟨rfl, n3⟩, Or.inl ⟨rfl, n4⟩, trivial⟩ ?_
      exact s_Riddles_fewestGifts_2 hcs a1 q0 _ _ _ h hq
    cases h
  · intro v I2 _ h
    split at h
    · cases h; exact q0 _ _ hq
    · cases h
theorem w_Riddles_fewestGifts {d : Nat} (hcs : AllS L X d (cs_Riddles_fewestGifts F_Riddles_toGet)) : Snd L X (d + 1) 179 1 (W_Riddles_fewestGifts F_Riddles_fewestGifts) := by
  refine ⟨_, z_Riddles_fewestGifts, rfl, fun β args k I r hty hlen h => ?_⟩
  unfold W_Riddles_fewestGifts at h
  split at h
  · rename_i t0 a0
    obtain ⟨hb0, h⟩ := mB_ok h
    have e0 := Nat.eq_of_beq_eq_true hb0
    have g0 : okB 106 a0 = true := e0 ▸ hty.1
    have e20 := one_106 g0
    subst e20
    obtain ⟨v, I1, h1, h2⟩ := bn_some h
    refine ⟨gf_obj (c := 6) (by decide) g0, rfl, some (0, .int v), I1, trivial, ?_, h2⟩
    exact s_Riddles_fewestGifts_0 hcs   (Q := fun w I => w = v ∧ I = I1) (fun w I q => by obtain ⟨rfl, rfl⟩ := q; rfl) I v I1 h1 ⟨rfl, rfl⟩
  · cases h
theorem S_Riddles_fewestGifts {d : Nat} (hd : 3 ≤ d) : Snd L X d 179 1 (W_Riddles_fewestGifts F_Riddles_fewestGifts) := by
  obtain ⟨e, rfl⟩ : ∃ e, d = e + 1 := ⟨d - 1, by omega⟩
  exact w_Riddles_fewestGifts ⟨S_Riddles_toGet (by omega), trivial⟩
set_option maxRecDepth 100000 in
theorem z_A_settled : pT[178]? = some (q_A_settled, 2, 2, 1, 11) := rfl
def W_A_settled (F : Int32 → M Int32) : CSem := fun _ args k => match args with
  | [(t0, .ref a0), (_, .int a1)] => mB (Nat.beq t0 111) <| bn (F a1) fun v => k (some (0, .int v))
  | _ => fl
def cs_A_settled (f_A_within : Int32 → Int32 → Int32 → M Int32) (f_Riddles_fewestGifts : M Int32) (f_Riddles_toGet : Int32 → M Int32) : List (Nat × Nat × CSem) := [(18, 3, W_A_within f_A_within), (179, 1, W_Riddles_fewestGifts f_Riddles_fewestGifts), (180, 2, W_Riddles_toGet f_Riddles_toGet)]
def F_A_settled (x1 : Int32) : M (Int32) :=
  (if x1 = (-1 : Int32) then
    bn (F_Riddles_fewestGifts) fun v3 =>
    rt v3
  else
    bn (F_A_within x1 (0 : Int32) (5 : Int32)) fun v1 =>
    (if v1 = 0 then
      rt (-10000 : Int32)
    else
      bn (F_Riddles_toGet x1) fun v2 =>
      rt v2))
set_option maxRecDepth 4000 in
theorem e_s_A_settled_0 (f_A_within : Int32 → Int32 → Int32 → M Int32) (f_Riddles_fewestGifts : M Int32) (f_Riddles_toGet : Int32 → M Int32) (x1 : Int32) : wf (β := Int32) L X q_A_settled 1 (cs_A_settled f_A_within f_Riddles_fewestGifts f_Riddles_toGet) [] [] (fun _ _ _ => fl) (fun v => match v with | some (_, .int x) => rt x | _ => fl) 24 0 [(111, .ref 0), (0, .int x1)] [] = ((if x1 = (-1 : Int32) then
    bn (f_Riddles_fewestGifts) fun v3 =>
    rt v3
  else
    bn (f_A_within x1 (0 : Int32) (5 : Int32)) fun v1 =>
    (if v1 = 0 then
      rt (-10000 : Int32)
    else
      bn (f_Riddles_toGet x1) fun v2 =>
      rt v2))) := rfl
theorem s_A_settled_0 {d : Nat} (hcs : AllS L X d (cs_A_settled F_A_within F_Riddles_fewestGifts F_Riddles_toGet)) (x1 : Int32) {o : Option Value × PH} {Q : (Int32) → MI → Prop} (q0 : ∀ v I, Q v I → o = (some (.int v), HH I)) (I : MI) (r : Int32) (I1 : MI) (h : F_A_settled x1 I = some (r, I1)) (hq : Q r I1) : At L X (d + 1) 178 0 [(111, .ref 0), (0, .int x1)] [] I o := by
  refine wf_ok z_A_settled hcs ?_ ?_ _ _ _ _ _ ⟨rfl, trivial, trivial⟩ trivial (unm_refl _ _) ((congrFun (e_s_A_settled_0 (L := L) (X := X) F_A_within F_Riddles_fewestGifts F_Riddles_toGet x1) I).trans h)
  · intro pc ls st I2 h1 h2 h3 h
    cases h
  · intro v I2 _ h
    split at h
    · cases h; exact q0 _ _ hq
    · cases h
theorem w_A_settled {d : Nat} (hcs : AllS L X d (cs_A_settled F_A_within F_Riddles_fewestGifts F_Riddles_toGet)) : Snd L X (d + 1) 178 2 (W_A_settled F_A_settled) := by
  refine ⟨_, z_A_settled, rfl, fun β args k I r hty hlen h => ?_⟩
  unfold W_A_settled at h
  split at h
  · rename_i t0 a0 u1 a1
    obtain ⟨hb0, h⟩ := mB_ok h
    have e0 := Nat.eq_of_beq_eq_true hb0
    have g0 : okB 111 a0 = true := e0 ▸ hty.1
    have e20 := one_111 g0
    subst e20
    obtain ⟨v, I1, h1, h2⟩ := bn_some h
    refine ⟨gf_obj (c := 11) (by decide) g0, rfl, some (0, .int v), I1, trivial, ?_, h2⟩
    exact s_A_settled_0 hcs a1  (Q := fun w I => w = v ∧ I = I1) (fun w I q => by obtain ⟨rfl, rfl⟩ := q; rfl) I v I1 h1 ⟨rfl, rfl⟩
  · cases h
theorem S_A_settled {d : Nat} (hd : 4 ≤ d) : Snd L X d 178 2 (W_A_settled F_A_settled) := by
  obtain ⟨e, rfl⟩ : ∃ e, d = e + 1 := ⟨d - 1, by omega⟩
  exact w_A_settled ⟨S_A_within (by omega), S_Riddles_fewestGifts (by omega), S_Riddles_toGet (by omega), trivial⟩
set_option maxRecDepth 100000 in
theorem z_A_sighted : pT[121]? = some (q_A_sighted, 3, 3, 1, 11) := rfl
def W_A_sighted (F : Int32 → Int32 → M Int32) : CSem := fun _ args k => match args with
  | [(t0, .ref a0), (_, .int a1), (_, .int a2)] => mB (Nat.beq t0 111) <| bn (F a1 a2) fun v => k (some (0, .int v))
  | _ => fl
def cs_A_sighted (f_A_within : Int32 → Int32 → Int32 → M Int32) (f_Table_put : Nat → Int32 → Int32 → Int32 → M Int32) (f_Table_wipe : Nat → M Int32) : List (Nat × Nat × CSem) := [(18, 3, W_A_within f_A_within), (106, 4, W_Table_put f_Table_put), (77, 1, W_Table_wipe f_Table_wipe)]
def F_A_sighted (x1 : Int32) (x2 : Int32) : M (Int32) :=
  (if x1 = (-1 : Int32) then
    bn (F_Table_wipe 27) fun v4 =>
    rt v4
  else
    bn (F_A_within x1 (0 : Int32) (99 : Int32)) fun v1 =>
    (if v1 = 0 then
      rt (-1 : Int32)
    else
      bn (F_A_within x2 (0 : Int32) (9 : Int32)) fun v2 =>
      (if v2 = 0 then
        rt (-1 : Int32)
      else
        bn (F_Table_put 27 x1 x2 (0 : Int32)) fun v3 =>
        rt v3)))
set_option maxRecDepth 4000 in
theorem e_s_A_sighted_0 (f_A_within : Int32 → Int32 → Int32 → M Int32) (f_Table_put : Nat → Int32 → Int32 → Int32 → M Int32) (f_Table_wipe : Nat → M Int32) (x1 : Int32) (x2 : Int32) : wf (β := Int32) L X q_A_sighted 1 (cs_A_sighted f_A_within f_Table_put f_Table_wipe) [] [] (fun _ _ _ => fl) (fun v => match v with | some (_, .int x) => rt x | _ => fl) 33 0 [(111, .ref 0), (0, .int x1), (0, .int x2)] [] = ((if x1 = (-1 : Int32) then
    bn (f_Table_wipe 27) fun v4 =>
    rt v4
  else
    bn (f_A_within x1 (0 : Int32) (99 : Int32)) fun v1 =>
    (if v1 = 0 then
      rt (-1 : Int32)
    else
      bn (f_A_within x2 (0 : Int32) (9 : Int32)) fun v2 =>
      (if v2 = 0 then
        rt (-1 : Int32)
      else
        bn (f_Table_put 27 x1 x2 (0 : Int32)) fun v3 =>
        rt v3)))) := rfl
theorem s_A_sighted_0 {d : Nat} (hcs : AllS L X d (cs_A_sighted F_A_within F_Table_put F_Table_wipe)) (x1 : Int32) (x2 : Int32) {o : Option Value × PH} {Q : (Int32) → MI → Prop} (q0 : ∀ v I, Q v I → o = (some (.int v), HH I)) (I : MI) (r : Int32) (I1 : MI) (h : F_A_sighted x1 x2 I = some (r, I1)) (hq : Q r I1) : At L X (d + 1) 121 0 [(111, .ref 0), (0, .int x1), (0, .int x2)] [] I o := by
  refine wf_ok z_A_sighted hcs ?_ ?_ _ _ _ _ _ ⟨rfl, trivial, trivial, trivial⟩ trivial (unm_refl _ _) ((congrFun (e_s_A_sighted_0 (L := L) (X := X) F_A_within F_Table_put F_Table_wipe x1 x2) I).trans h)
  · intro pc ls st I2 h1 h2 h3 h
    cases h
  · intro v I2 _ h
    split at h
    · cases h; exact q0 _ _ hq
    · cases h
theorem w_A_sighted {d : Nat} (hcs : AllS L X d (cs_A_sighted F_A_within F_Table_put F_Table_wipe)) : Snd L X (d + 1) 121 3 (W_A_sighted F_A_sighted) := by
  refine ⟨_, z_A_sighted, rfl, fun β args k I r hty hlen h => ?_⟩
  unfold W_A_sighted at h
  split at h
  · rename_i t0 a0 u1 a1 u2 a2
    obtain ⟨hb0, h⟩ := mB_ok h
    have e0 := Nat.eq_of_beq_eq_true hb0
    have g0 : okB 111 a0 = true := e0 ▸ hty.1
    have e20 := one_111 g0
    subst e20
    obtain ⟨v, I1, h1, h2⟩ := bn_some h
    refine ⟨gf_obj (c := 11) (by decide) g0, rfl, some (0, .int v), I1, trivial, ?_, h2⟩
    exact s_A_sighted_0 hcs a1 a2  (Q := fun w I => w = v ∧ I = I1) (fun w I q => by obtain ⟨rfl, rfl⟩ := q; rfl) I v I1 h1 ⟨rfl, rfl⟩
  · cases h
theorem S_A_sighted {d : Nat} (hd : 4 ≤ d) : Snd L X d 121 3 (W_A_sighted F_A_sighted) := by
  obtain ⟨e, rfl⟩ : ∃ e, d = e + 1 := ⟨d - 1, by omega⟩
  exact w_A_sighted ⟨S_A_within (by omega), S_Table_put (by omega), S_Table_wipe (by omega), trivial⟩
set_option maxRecDepth 100000 in
theorem z_Riddles_canSpeakTrue : pT[145]? = some (q_Riddles_canSpeakTrue, 2, 6, 2, 6) := rfl
def W_Riddles_canSpeakTrue (F : Int32 → M Int32) : CSem := fun _ args k => match args with
  | [(t0, .ref a0), (_, .int a1)] => mB (Nat.beq t0 106) <| bn (F a1) fun v => k (some (0, .int v))
  | _ => fl
def cs_Riddles_canSpeakTrue (f_Table_at : Nat → Int32 → Int32 → M Int32) : List (Nat × Nat × CSem) := [(36, 3, W_Table_at f_Table_at)]
def B_Riddles_canSpeakTrue_2 (x1 : Int32) (y : Int32) : M ((Int32) ⊕ (Int32)) :=
  bn (rd 31 3) fun v1 =>
  (if y < v1 then
    bn (F_Table_at 31 y (0 : Int32)) fun v2 =>
    bn (F_Table_at 31 y (1 : Int32)) fun v3 =>
    bn (F_Table_at 31 y (2 : Int32)) fun v4 =>
    (if ((x1 >>> (v3 &&& 31)) &&& (1 : Int32)) = v4 then
      (if ((x1 >>> (v2 &&& 31)) &&& (1 : Int32)) = (1 : Int32) then
        (if (1 : Int32) = (1 : Int32) then
          rt (.inl (y + (1 : Int32)))
        else
          bn (gdZ (0 : Int32)) fun _ => rt (.inr (0 : Int32)))
      else
        (if (1 : Int32) = (0 : Int32) then
          rt (.inl (y + (1 : Int32)))
        else
          bn (gdZ (0 : Int32)) fun _ => rt (.inr (0 : Int32))))
    else
      (if ((x1 >>> (v2 &&& 31)) &&& (1 : Int32)) = (1 : Int32) then
        (if (0 : Int32) = (1 : Int32) then
          rt (.inl (y + (1 : Int32)))
        else
          bn (gdZ (0 : Int32)) fun _ => rt (.inr (0 : Int32)))
      else
        (if (0 : Int32) = (0 : Int32) then
          rt (.inl (y + (1 : Int32)))
        else
          bn (gdZ (0 : Int32)) fun _ => rt (.inr (0 : Int32)))))
  else
    bn (gdZ (1 : Int32)) fun _ => rt (.inr (1 : Int32)))
set_option maxRecDepth 4000 in
theorem e_b_Riddles_canSpeakTrue_2 (f_Table_at : Nat → Int32 → Int32 → M Int32) (x1 : Int32) (y : Int32) : wf (β := (Int32) ⊕ (Int32)) L X q_Riddles_canSpeakTrue 2 (cs_Riddles_canSpeakTrue f_Table_at) [2, 3, 4, 5] [2] (fun pc ls st => mC (Nat.beq pc 2) (mN st <| gI ls 2 fun a2 => gD ls 3 <| gD ls 4 <| gD ls 5 <| rt (.inl a2)) (fl)) (fun v => match v with | some (_, .int x) => rt (.inr x) | _ => fl) 61 2 [(106, .ref 195), (0, .int x1), (0, .int y), (0, dV), (0, dV), (0, dV)] [] = (bn (rd 31 3) fun v1 =>
  (if y < v1 then
    bn (f_Table_at 31 y (0 : Int32)) fun v2 =>
    bn (f_Table_at 31 y (1 : Int32)) fun v3 =>
    bn (f_Table_at 31 y (2 : Int32)) fun v4 =>
    (if ((x1 >>> (v3 &&& 31)) &&& (1 : Int32)) = v4 then
      (if ((x1 >>> (v2 &&& 31)) &&& (1 : Int32)) = (1 : Int32) then
        (if (1 : Int32) = (1 : Int32) then
          rt (.inl (y + (1 : Int32)))
        else
          bn (gdZ (0 : Int32)) fun _ => rt (.inr (0 : Int32)))
      else
        (if (1 : Int32) = (0 : Int32) then
          rt (.inl (y + (1 : Int32)))
        else
          bn (gdZ (0 : Int32)) fun _ => rt (.inr (0 : Int32))))
    else
      (if ((x1 >>> (v2 &&& 31)) &&& (1 : Int32)) = (1 : Int32) then
        (if (0 : Int32) = (1 : Int32) then
          rt (.inl (y + (1 : Int32)))
        else
          bn (gdZ (0 : Int32)) fun _ => rt (.inr (0 : Int32)))
      else
        (if (0 : Int32) = (0 : Int32) then
          rt (.inl (y + (1 : Int32)))
        else
          bn (gdZ (0 : Int32)) fun _ => rt (.inr (0 : Int32)))))
  else
    bn (gdZ (1 : Int32)) fun _ => rt (.inr (1 : Int32)))) := rfl
theorem b_Riddles_canSpeakTrue_2 {d : Nat} (hcs : AllS L X d (cs_Riddles_canSpeakTrue F_Table_at)) (x1 : Int32) {o : Option Value × PH} {Q : ((Int32) ⊕ (Int32)) → MI → Prop} (qb : ∀ y I, Q (.inl y) I → At L X (d + 1) 145 2 [(106, .ref 195), (0, .int x1), (0, .int y), (0, dV), (0, dV), (0, dV)] [] I o) (qr : ∀ v I, Q (.inr v) I → o = (some (.int v), HH I)) (y : Int32) (I : MI) (r : (Int32) ⊕ (Int32)) (I1 : MI) (h : B_Riddles_canSpeakTrue_2 x1 y I = some (r, I1)) (hq : Q r I1) : At L X (d + 1) 145 2 [(106, .ref 195), (0, .int x1), (0, .int y), (0, dV), (0, dV), (0, dV)] [] I o := by
  refine wf_ok z_Riddles_canSpeakTrue hcs ?_ ?_ _ _ _ _ _ ⟨rfl, trivial, trivial, trivial, trivial, trivial, trivial⟩ trivial (unm_refl _ _) ((congrFun (e_b_Riddles_canSpeakTrue_2 (L := L) (X := X) F_Table_at x1 y) I).trans h)
  · intro pc ls st I2 h1 h2 h3 h
    rcases mC_ok h with ⟨hb, h⟩ | ⟨_, h⟩
    · have e := Nat.eq_of_beq_eq_true hb
      subst e
      obtain ⟨hst, h⟩ := mN_ok h
      subst hst
      obtain ⟨a2, n2, h⟩ := gI_ok h
      obtain ⟨n3, h⟩ := gD_ok h
      obtain ⟨n4, h⟩ := gD_ok h
      obtain ⟨n5, h⟩ := gD_ok h
      refine at_leaf (ls2 := [(106, .ref 195), (0, .int x1), (0, .int a2), (0, dV), (0, dV), (0, dV)]) h3.1 ⟨Or.inr ⟨_, (h3.2 0 rfl).trans rfl⟩, Or.inr ⟨_, (h3.2 1 rfl).trans rfl⟩, Or.inr n2, Or.inl ⟨rfl, n3⟩, Or.inl ⟨rfl, n4⟩, Or.inl ⟨rfl, n5⟩, trivial⟩ ?_
      cases h; exact qb _ _ hq
    cases h
  · intro v I2 _ h
    split at h
    · cases h; exact qr _ _ hq
    · cases h
def K_Riddles_canSpeakTrue_2 (x1 : Int32) (x2 : Int32) : M (Int32) :=
  lp (B_Riddles_canSpeakTrue_2 x1) FU x2
theorem s_Riddles_canSpeakTrue_2 {d : Nat} (hcs : AllS L X d (cs_Riddles_canSpeakTrue F_Table_at)) (x1 : Int32) (x2 : Int32) {o : Option Value × PH} {Q : (Int32) → MI → Prop} (q0 : ∀ v I, Q v I → o = (some (.int v), HH I)) (I : MI) (r : Int32) (I1 : MI) (h : K_Riddles_canSpeakTrue_2 x1 x2 I = some (r, I1)) (hq : Q r I1) : At L X (d + 1) 145 2 [(106, .ref 195), (0, .int x1), (0, .int x2), (0, dV), (0, dV), (0, dV)] [] I o := by
  unfold K_Riddles_canSpeakTrue_2 at h
  have w0 := fun w => at_lp (body := B_Riddles_canSpeakTrue_2 x1) (P := (fun (y : Int32) I => At L X (d + 1) 145 2 [(106, .ref 195), (0, .int x1), (0, .int y), (0, dV), (0, dV), (0, dV)] [] I o)) (Q := (fun (e : Int32) I => Q e I)) w FU x2 I r I1 h hq
  refine w0 ?_
  intro y I r I1 h hq
  exact b_Riddles_canSpeakTrue_2 hcs x1 (Q := SQ (fun (y : Int32) I => At L X (d + 1) 145 2 [(106, .ref 195), (0, .int x1), (0, .int y), (0, dV), (0, dV), (0, dV)] [] I o) (fun (e : Int32) I => Q e I)) (fun _ _ w => w) q0 y I r I1 h hq
def F_Riddles_canSpeakTrue (x1 : Int32) : M (Int32) :=
  K_Riddles_canSpeakTrue_2 x1 (0 : Int32)
set_option maxRecDepth 4000 in
theorem e_s_Riddles_canSpeakTrue_0 (f_Table_at : Nat → Int32 → Int32 → M Int32) (k_2 : Int32 → Int32 → M (Int32)) (x1 : Int32) : wf (β := Int32) L X q_Riddles_canSpeakTrue 2 (cs_Riddles_canSpeakTrue f_Table_at) [2] [2] (fun pc ls st => mC (Nat.beq pc 2) (mN st <| gI ls 2 fun a2 => gD ls 3 <| gD ls 4 <| gD ls 5 <| k_2 x1 a2) (fl)) (fun v => match v with | some (_, .int x) => rt x | _ => fl) 61 0 [(106, .ref 195), (0, .int x1), (0, dV), (0, dV), (0, dV), (0, dV)] [] = (k_2 x1 (0 : Int32)) := rfl
theorem s_Riddles_canSpeakTrue_0 {d : Nat} (hcs : AllS L X d (cs_Riddles_canSpeakTrue F_Table_at)) (x1 : Int32) {o : Option Value × PH} {Q : (Int32) → MI → Prop} (q0 : ∀ v I, Q v I → o = (some (.int v), HH I)) (I : MI) (r : Int32) (I1 : MI) (h : F_Riddles_canSpeakTrue x1 I = some (r, I1)) (hq : Q r I1) : At L X (d + 1) 145 0 [(106, .ref 195), (0, .int x1), (0, dV), (0, dV), (0, dV), (0, dV)] [] I o := by
  refine wf_ok z_Riddles_canSpeakTrue hcs ?_ ?_ _ _ _ _ _ ⟨rfl, trivial, trivial, trivial, trivial, trivial, trivial⟩ trivial (unm_refl _ _) ((congrFun (e_s_Riddles_canSpeakTrue_0 (L := L) (X := X) F_Table_at K_Riddles_canSpeakTrue_2 x1) I).trans h)
  · intro pc ls st I2 h1 h2 h3 h
    rcases mC_ok h with ⟨hb, h⟩ | ⟨_, h⟩
    · have e := Nat.eq_of_beq_eq_true hb
      subst e
      obtain ⟨hst, h⟩ := mN_ok h
      subst hst
      obtain ⟨a2, n2, h⟩ := gI_ok h
      obtain ⟨n3, h⟩ := gD_ok h
      obtain ⟨n4, h⟩ := gD_ok h
      obtain ⟨n5, h⟩ := gD_ok h
      refine at_leaf (ls2 := [(106, .ref 195), (0, .int x1), (0, .int a2), (0, dV), (0, dV), (0, dV)]) h3.1 ⟨Or.inr ⟨_, (h3.2 0 rfl).trans rfl⟩, Or.inr ⟨_, (h3.2 1 rfl).trans rfl⟩, Or.inr n2, Or.inl ⟨rfl, n3⟩, Or.inl ⟨rfl, n4⟩, Or.inl ⟨rfl, n5⟩, trivial⟩ ?_
      exact s_Riddles_canSpeakTrue_2 hcs x1 a2 q0 _ _ _ h hq
    cases h
  · intro v I2 _ h
    split at h
    · cases h; exact q0 _ _ hq
    · cases h
theorem w_Riddles_canSpeakTrue {d : Nat} (hcs : AllS L X d (cs_Riddles_canSpeakTrue F_Table_at)) : Snd L X (d + 1) 145 2 (W_Riddles_canSpeakTrue F_Riddles_canSpeakTrue) := by
  refine ⟨_, z_Riddles_canSpeakTrue, rfl, fun β args k I r hty hlen h => ?_⟩
  unfold W_Riddles_canSpeakTrue at h
  split at h
  · rename_i t0 a0 u1 a1
    obtain ⟨hb0, h⟩ := mB_ok h
    have e0 := Nat.eq_of_beq_eq_true hb0
    have g0 : okB 106 a0 = true := e0 ▸ hty.1
    have e20 := one_106 g0
    subst e20
    obtain ⟨v, I1, h1, h2⟩ := bn_some h
    refine ⟨gf_obj (c := 6) (by decide) g0, rfl, some (0, .int v), I1, trivial, ?_, h2⟩
    exact s_Riddles_canSpeakTrue_0 hcs a1  (Q := fun w I => w = v ∧ I = I1) (fun w I q => by obtain ⟨rfl, rfl⟩ := q; rfl) I v I1 h1 ⟨rfl, rfl⟩
  · cases h
theorem S_Riddles_canSpeakTrue {d : Nat} (hd : 2 ≤ d) : Snd L X d 145 2 (W_Riddles_canSpeakTrue F_Riddles_canSpeakTrue) := by
  obtain ⟨e, rfl⟩ : ∃ e, d = e + 1 := ⟨d - 1, by omega⟩
  exact w_Riddles_canSpeakTrue ⟨S_Table_at (by omega), trivial⟩
set_option maxRecDepth 100000 in
theorem z_Riddles_trueSpeakers : pT[144]? = some (q_Riddles_trueSpeakers, 2, 6, 1, 6) := rfl
def W_Riddles_trueSpeakers (F : Int32 → M Int32) : CSem := fun _ args k => match args with
  | [(t0, .ref a0), (_, .int a1)] => mB (Nat.beq t0 106) <| bn (F a1) fun v => k (some (0, .int v))
  | _ => fl
def cs_Riddles_trueSpeakers (f_Integer_bitCount : Int32 → M Int32) (f_Riddles_canSpeakTrue : Int32 → M Int32) : List (Nat × Nat × CSem) := [(53, 1, W_Integer_bitCount f_Integer_bitCount), (145, 2, W_Riddles_canSpeakTrue f_Riddles_canSpeakTrue)]
def B_Riddles_trueSpeakers_12 (x1 : Int32) (y : Int32 × Int32 × Int32 × Int32) : M ((Int32 × Int32 × Int32 × Int32) ⊕ ((Int32 × Int32 × Int32))) :=
  (if y.2.2.2 < (256 : Int32) then
    bn (F_Riddles_canSpeakTrue y.2.2.2) fun v1 =>
    (if v1 = 0 then
      rt (.inl (y.1, y.2.1, y.2.2.1, (y.2.2.2 + (1 : Int32))))
    else
      bn (F_Integer_bitCount y.2.2.2) fun v2 =>
      rt (.inl ((y.1 + (1 : Int32)), (if y.2.1 < v2 then v2 else y.2.1), (y.2.2.1 &&& y.2.2.2), (y.2.2.2 + (1 : Int32)))))
  else
    rt (.inr (y.1, y.2.1, y.2.2.1)))
set_option maxRecDepth 4000 in
theorem e_b_Riddles_trueSpeakers_12 (f_Integer_bitCount : Int32 → M Int32) (f_Riddles_canSpeakTrue : Int32 → M Int32) (x1 : Int32) (y : Int32 × Int32 × Int32 × Int32) : wf (β := (Int32 × Int32 × Int32 × Int32) ⊕ ((Int32 × Int32 × Int32))) L X q_Riddles_trueSpeakers 1 (cs_Riddles_trueSpeakers f_Integer_bitCount f_Riddles_canSpeakTrue) [2, 3, 4, 5] [12, 55] (fun pc ls st => mC (Nat.beq pc 12) (mN st <| gI ls 2 fun a2 => gI ls 3 fun a3 => gI ls 4 fun a4 => gI ls 5 fun a5 => rt (.inl (a2, a3, a4, a5))) (mC (Nat.beq pc 55) (mN st <| gD ls 0 <| gI ls 2 fun a2 => gI ls 3 fun a3 => gI ls 4 fun a4 => gD ls 5 <| rt (.inr (a2, a3, a4))) (fl))) (fun _ => fl) 47 12 [(106, .ref 195), (0, .int x1), (0, .int y.1), (0, .int y.2.1), (0, .int y.2.2.1), (0, .int y.2.2.2)] [] = ((if y.2.2.2 < (256 : Int32) then
    bn (f_Riddles_canSpeakTrue y.2.2.2) fun v1 =>
    (if v1 = 0 then
      rt (.inl (y.1, y.2.1, y.2.2.1, (y.2.2.2 + (1 : Int32))))
    else
      bn (f_Integer_bitCount y.2.2.2) fun v2 =>
      rt (.inl ((y.1 + (1 : Int32)), (if y.2.1 < v2 then v2 else y.2.1), (y.2.2.1 &&& y.2.2.2), (y.2.2.2 + (1 : Int32)))))
  else
    rt (.inr (y.1, y.2.1, y.2.2.1)))) := rfl
theorem b_Riddles_trueSpeakers_12 {d : Nat} (hcs : AllS L X d (cs_Riddles_trueSpeakers F_Integer_bitCount F_Riddles_canSpeakTrue)) (x1 : Int32) {o : Option Value × PH} {Q : ((Int32 × Int32 × Int32 × Int32) ⊕ ((Int32 × Int32 × Int32))) → MI → Prop} (qb : ∀ y I, Q (.inl y) I → At L X (d + 1) 144 12 [(106, .ref 195), (0, .int x1), (0, .int y.1), (0, .int y.2.1), (0, .int y.2.2.1), (0, .int y.2.2.2)] [] I o) (qe55 : ∀ y I, Q (.inr y) I → At L X (d + 1) 144 55 [(0, dV), (0, .int x1), (0, .int y.1), (0, .int y.2.1), (0, .int y.2.2), (0, dV)] [] I o) (y : Int32 × Int32 × Int32 × Int32) (I : MI) (r : (Int32 × Int32 × Int32 × Int32) ⊕ ((Int32 × Int32 × Int32))) (I1 : MI) (h : B_Riddles_trueSpeakers_12 x1 y I = some (r, I1)) (hq : Q r I1) : At L X (d + 1) 144 12 [(106, .ref 195), (0, .int x1), (0, .int y.1), (0, .int y.2.1), (0, .int y.2.2.1), (0, .int y.2.2.2)] [] I o := by
  refine wf_ok z_Riddles_trueSpeakers hcs ?_ ?_ _ _ _ _ _ ⟨rfl, trivial, trivial, trivial, trivial, trivial, trivial⟩ trivial (unm_refl _ _) ((congrFun (e_b_Riddles_trueSpeakers_12 (L := L) (X := X) F_Integer_bitCount F_Riddles_canSpeakTrue x1 y) I).trans h)
  · intro pc ls st I2 h1 h2 h3 h
    rcases mC_ok h with ⟨hb, h⟩ | ⟨_, h⟩
    · have e := Nat.eq_of_beq_eq_true hb
      subst e
      obtain ⟨hst, h⟩ := mN_ok h
      subst hst
      obtain ⟨a2, n2, h⟩ := gI_ok h
      obtain ⟨a3, n3, h⟩ := gI_ok h
      obtain ⟨a4, n4, h⟩ := gI_ok h
      obtain ⟨a5, n5, h⟩ := gI_ok h
      refine at_leaf (ls2 := [(106, .ref 195), (0, .int x1), (0, .int a2), (0, .int a3), (0, .int a4), (0, .int a5)]) h3.1 ⟨Or.inr ⟨_, (h3.2 0 rfl).trans rfl⟩, Or.inr ⟨_, (h3.2 1 rfl).trans rfl⟩, Or.inr n2, Or.inr n3, Or.inr n4, Or.inr n5, trivial⟩ ?_
      cases h; exact qb _ _ hq
    rcases mC_ok h with ⟨hb, h⟩ | ⟨_, h⟩
    · have e := Nat.eq_of_beq_eq_true hb
      subst e
      obtain ⟨hst, h⟩ := mN_ok h
      subst hst
      obtain ⟨n0, h⟩ := gD_ok h
      obtain ⟨a2, n2, h⟩ := gI_ok h
      obtain ⟨a3, n3, h⟩ := gI_ok h
      obtain ⟨a4, n4, h⟩ := gI_ok h
      obtain ⟨n5, h⟩ := gD_ok h
      refine at_leaf (ls2 := [(0, dV), (0, .int x1), (0, .int a2), (0, .int a3), (0, .int a4), (0, dV)]) h3.1 ⟨Or.inl ⟨rfl, n0⟩, Or.inr ⟨_, (h3.2 1 rfl).trans rfl⟩, Or.inr n2, Or.inr n3, Or.inr n4, Or.inl ⟨rfl, n5⟩, trivial⟩ ?_
      cases h; exact qe55 _ _ hq
    cases h
  · intro v I2 _ h
    cases h
def K_Riddles_trueSpeakers_55 (x1 : Int32) (x2 : Int32) (x3 : Int32) (x4 : Int32) : M (Int32) :=
  (if x1 = 0 then
    rt x2
  else
    (if x1 = (1 : Int32) then
      rt x3
    else
      (if x2 = 0 then
        rt (0 : Int32)
      else
        rt x4)))
set_option maxRecDepth 4000 in
theorem e_s_Riddles_trueSpeakers_55 (f_Integer_bitCount : Int32 → M Int32) (f_Riddles_canSpeakTrue : Int32 → M Int32) (x1 : Int32) (x2 : Int32) (x3 : Int32) (x4 : Int32) : wf (β := Int32) L X q_Riddles_trueSpeakers 1 (cs_Riddles_trueSpeakers f_Integer_bitCount f_Riddles_canSpeakTrue) [] [12, 55] (fun _ _ _ => fl) (fun v => match v with | some (_, .int x) => rt x | _ => fl) 47 55 [(0, dV), (0, .int x1), (0, .int x2), (0, .int x3), (0, .int x4), (0, dV)] [] = ((if x1 = 0 then
    rt x2
  else
    (if x1 = (1 : Int32) then
      rt x3
    else
      (if x2 = 0 then
        rt (0 : Int32)
      else
        rt x4)))) := rfl
theorem s_Riddles_trueSpeakers_55 {d : Nat} (hcs : AllS L X d (cs_Riddles_trueSpeakers F_Integer_bitCount F_Riddles_canSpeakTrue)) (x1 : Int32) (x2 : Int32) (x3 : Int32) (x4 : Int32) {o : Option Value × PH} {Q : (Int32) → MI → Prop} (q0 : ∀ v I, Q v I → o = (some (.int v), HH I)) (I : MI) (r : Int32) (I1 : MI) (h : K_Riddles_trueSpeakers_55 x1 x2 x3 x4 I = some (r, I1)) (hq : Q r I1) : At L X (d + 1) 144 55 [(0, dV), (0, .int x1), (0, .int x2), (0, .int x3), (0, .int x4), (0, dV)] [] I o := by
  refine wf_ok z_Riddles_trueSpeakers hcs ?_ ?_ _ _ _ _ _ ⟨trivial, trivial, trivial, trivial, trivial, trivial, trivial⟩ trivial (unm_refl _ _) ((congrFun (e_s_Riddles_trueSpeakers_55 (L := L) (X := X) F_Integer_bitCount F_Riddles_canSpeakTrue x1 x2 x3 x4) I).trans h)
  · intro pc ls st I2 h1 h2 h3 h
    cases h
  · intro v I2 _ h
    split at h
    · cases h; exact q0 _ _ hq
    · cases h
def K_Riddles_trueSpeakers_12 (x1 : Int32) (x2 : Int32) (x3 : Int32) (x4 : Int32) (x5 : Int32) : M (Int32) :=
  bn (lp (B_Riddles_trueSpeakers_12 x1) FU (x2, x3, x4, x5)) fun e => K_Riddles_trueSpeakers_55 x1 e.1 e.2.1 e.2.2
theorem s_Riddles_trueSpeakers_12 {d : Nat} (hcs : AllS L X d (cs_Riddles_trueSpeakers F_Integer_bitCount F_Riddles_canSpeakTrue)) (x1 : Int32) (x2 : Int32) (x3 : Int32) (x4 : Int32) (x5 : Int32) {o : Option Value × PH} {Q : (Int32) → MI → Prop} (q0 : ∀ v I, Q v I → o = (some (.int v), HH I)) (I : MI) (r : Int32) (I1 : MI) (h : K_Riddles_trueSpeakers_12 x1 x2 x3 x4 x5 I = some (r, I1)) (hq : Q r I1) : At L X (d + 1) 144 12 [(106, .ref 195), (0, .int x1), (0, .int x2), (0, .int x3), (0, .int x4), (0, .int x5)] [] I o := by
  unfold K_Riddles_trueSpeakers_12 at h
  obtain ⟨e, I2, h1, h2⟩ := bn_some h
  have w0 := fun w => at_lp (body := B_Riddles_trueSpeakers_12 x1) (P := (fun (y : Int32 × Int32 × Int32 × Int32) I => At L X (d + 1) 144 12 [(106, .ref 195), (0, .int x1), (0, .int y.1), (0, .int y.2.1), (0, .int y.2.2.1), (0, .int y.2.2.2)] [] I o)) (Q := (fun (e : (Int32 × Int32 × Int32)) I => (K_Riddles_trueSpeakers_55 x1 e.1 e.2.1 e.2.2) I = some (r, I1))) w FU (x2, x3, x4, x5) I e I2 h1 h2
  refine w0 ?_
  intro y I r2 I3 h hq2
  exact b_Riddles_trueSpeakers_12 hcs x1 (Q := SQ (fun (y : Int32 × Int32 × Int32 × Int32) I => At L X (d + 1) 144 12 [(106, .ref 195), (0, .int x1), (0, .int y.1), (0, .int y.2.1), (0, .int y.2.2.1), (0, .int y.2.2.2)] [] I o) (fun (e : (Int32 × Int32 × Int32)) I => (K_Riddles_trueSpeakers_55 x1 e.1 e.2.1 e.2.2) I = some (r, I1))) (fun _ _ w => w) (fun y I w => s_Riddles_trueSpeakers_55 hcs x1 y.1 y.2.1 y.2.2 q0 _ _ _ w hq) y I r2 I3 h hq2
def F_Riddles_trueSpeakers (x1 : Int32) : M (Int32) :=
  K_Riddles_trueSpeakers_12 x1 (0 : Int32) (-1 : Int32) (255 : Int32) (0 : Int32)
set_option maxRecDepth 4000 in
theorem e_s_Riddles_trueSpeakers_0 (f_Integer_bitCount : Int32 → M Int32) (f_Riddles_canSpeakTrue : Int32 → M Int32) (k_12 : Int32 → Int32 → Int32 → Int32 → Int32 → M (Int32)) (x1 : Int32) : wf (β := Int32) L X q_Riddles_trueSpeakers 1 (cs_Riddles_trueSpeakers f_Integer_bitCount f_Riddles_canSpeakTrue) [2, 3, 4, 5] [12, 55] (fun pc ls st => mC (Nat.beq pc 12) (mN st <| gI ls 2 fun a2 => gI ls 3 fun a3 => gI ls 4 fun a4 => gI ls 5 fun a5 => k_12 x1 a2 a3 a4 a5) (fl)) (fun v => match v with | some (_, .int x) => rt x | _ => fl) 47 0 [(106, .ref 195), (0, .int x1), (0, dV), (0, dV), (0, dV), (0, dV)] [] = (k_12 x1 (0 : Int32) (-1 : Int32) (255 : Int32) (0 : Int32)) := rfl
theorem s_Riddles_trueSpeakers_0 {d : Nat} (hcs : AllS L X d (cs_Riddles_trueSpeakers F_Integer_bitCount F_Riddles_canSpeakTrue)) (x1 : Int32) {o : Option Value × PH} {Q : (Int32) → MI → Prop} (q0 : ∀ v I, Q v I → o = (some (.int v), HH I)) (I : MI) (r : Int32) (I1 : MI) (h : F_Riddles_trueSpeakers x1 I = some (r, I1)) (hq : Q r I1) : At L X (d + 1) 144 0 [(106, .ref 195), (0, .int x1), (0, dV), (0, dV), (0, dV), (0, dV)] [] I o := by
  refine wf_ok z_Riddles_trueSpeakers hcs ?_ ?_ _ _ _ _ _ ⟨rfl, trivial, trivial, trivial, trivial, trivial, trivial⟩ trivial (unm_refl _ _) ((congrFun (e_s_Riddles_trueSpeakers_0 (L := L) (X := X) F_Integer_bitCount F_Riddles_canSpeakTrue K_Riddles_trueSpeakers_12 x1) I).trans h)
  · intro pc ls st I2 h1 h2 h3 h
    rcases mC_ok h with ⟨hb, h⟩ | ⟨_, h⟩
    · have e := Nat.eq_of_beq_eq_true hb
      subst e
      obtain ⟨hst, h⟩ := mN_ok h
      subst hst
      obtain ⟨a2, n2, h⟩ := gI_ok h
      obtain ⟨a3, n3, h⟩ := gI_ok h
      obtain ⟨a4, n4, h⟩ := gI_ok h
      obtain ⟨a5, n5, h⟩ := gI_ok h
      refine at_leaf (ls2 := [(106, .ref 195), (0, .int x1), (0, .int a2), (0, .int a3), (0, .int a4), (0, .int a5)]) h3.1 ⟨Or.inr ⟨_, (h3.2 0 rfl).trans rfl⟩, Or.inr ⟨_, (h3.2 1 rfl).trans rfl⟩, Or.inr n2, Or.inr n3, Or.inr n4, Or.inr n5, trivial⟩ ?_
      exact s_Riddles_trueSpeakers_12 hcs x1 a2 a3 a4 a5 q0 _ _ _ h hq
    cases h
  · intro v I2 _ h
    split at h
    · cases h; exact q0 _ _ hq
    · cases h
theorem w_Riddles_trueSpeakers {d : Nat} (hcs : AllS L X d (cs_Riddles_trueSpeakers F_Integer_bitCount F_Riddles_canSpeakTrue)) : Snd L X (d + 1) 144 2 (W_Riddles_trueSpeakers F_Riddles_trueSpeakers) := by
  refine ⟨_, z_Riddles_trueSpeakers, rfl, fun β args k I r hty hlen h => ?_⟩
  unfold W_Riddles_trueSpeakers at h
  split at h
  · rename_i t0 a0 u1 a1
    obtain ⟨hb0, h⟩ := mB_ok h
    have e0 := Nat.eq_of_beq_eq_true hb0
    have g0 : okB 106 a0 = true := e0 ▸ hty.1
    have e20 := one_106 g0
    subst e20
    obtain ⟨v, I1, h1, h2⟩ := bn_some h
    refine ⟨gf_obj (c := 6) (by decide) g0, rfl, some (0, .int v), I1, trivial, ?_, h2⟩
    exact s_Riddles_trueSpeakers_0 hcs a1  (Q := fun w I => w = v ∧ I = I1) (fun w I q => by obtain ⟨rfl, rfl⟩ := q; rfl) I v I1 h1 ⟨rfl, rfl⟩
  · cases h
theorem S_Riddles_trueSpeakers {d : Nat} (hd : 3 ≤ d) : Snd L X d 144 2 (W_Riddles_trueSpeakers F_Riddles_trueSpeakers) := by
  obtain ⟨e, rfl⟩ : ∃ e, d = e + 1 := ⟨d - 1, by omega⟩
  exact w_Riddles_trueSpeakers ⟨S_Integer_bitCount (by omega), S_Riddles_canSpeakTrue (by omega), trivial⟩
set_option maxRecDepth 100000 in
theorem z_A_speakers : pT[143]? = some (q_A_speakers, 2, 2, 1, 11) := rfl
def W_A_speakers (F : Int32 → M Int32) : CSem := fun _ args k => match args with
  | [(t0, .ref a0), (_, .int a1)] => mB (Nat.beq t0 111) <| bn (F a1) fun v => k (some (0, .int v))
  | _ => fl
def cs_A_speakers (f_A_within : Int32 → Int32 → Int32 → M Int32) (f_Riddles_trueSpeakers : Int32 → M Int32) : List (Nat × Nat × CSem) := [(18, 3, W_A_within f_A_within), (144, 2, W_Riddles_trueSpeakers f_Riddles_trueSpeakers)]
def F_A_speakers (x1 : Int32) : M (Int32) :=
  bn (F_A_within x1 (0 : Int32) (2 : Int32)) fun v1 =>
  (if v1 = 0 then
    rt (-1 : Int32)
  else
    bn (F_Riddles_trueSpeakers x1) fun v2 =>
    rt v2)
set_option maxRecDepth 4000 in
theorem e_s_A_speakers_0 (f_A_within : Int32 → Int32 → Int32 → M Int32) (f_Riddles_trueSpeakers : Int32 → M Int32) (x1 : Int32) : wf (β := Int32) L X q_A_speakers 1 (cs_A_speakers f_A_within f_Riddles_trueSpeakers) [] [] (fun _ _ _ => fl) (fun v => match v with | some (_, .int x) => rt x | _ => fl) 17 0 [(111, .ref 0), (0, .int x1)] [] = (bn (f_A_within x1 (0 : Int32) (2 : Int32)) fun v1 =>
  (if v1 = 0 then
    rt (-1 : Int32)
  else
    bn (f_Riddles_trueSpeakers x1) fun v2 =>
    rt v2)) := rfl
theorem s_A_speakers_0 {d : Nat} (hcs : AllS L X d (cs_A_speakers F_A_within F_Riddles_trueSpeakers)) (x1 : Int32) {o : Option Value × PH} {Q : (Int32) → MI → Prop} (q0 : ∀ v I, Q v I → o = (some (.int v), HH I)) (I : MI) (r : Int32) (I1 : MI) (h : F_A_speakers x1 I = some (r, I1)) (hq : Q r I1) : At L X (d + 1) 143 0 [(111, .ref 0), (0, .int x1)] [] I o := by
  refine wf_ok z_A_speakers hcs ?_ ?_ _ _ _ _ _ ⟨rfl, trivial, trivial⟩ trivial (unm_refl _ _) ((congrFun (e_s_A_speakers_0 (L := L) (X := X) F_A_within F_Riddles_trueSpeakers x1) I).trans h)
  · intro pc ls st I2 h1 h2 h3 h
    cases h
  · intro v I2 _ h
    split at h
    · cases h; exact q0 _ _ hq
    · cases h
theorem w_A_speakers {d : Nat} (hcs : AllS L X d (cs_A_speakers F_A_within F_Riddles_trueSpeakers)) : Snd L X (d + 1) 143 2 (W_A_speakers F_A_speakers) := by
  refine ⟨_, z_A_speakers, rfl, fun β args k I r hty hlen h => ?_⟩
  unfold W_A_speakers at h
  split at h
  · rename_i t0 a0 u1 a1
    obtain ⟨hb0, h⟩ := mB_ok h
    have e0 := Nat.eq_of_beq_eq_true hb0
    have g0 : okB 111 a0 = true := e0 ▸ hty.1
    have e20 := one_111 g0
    subst e20
    obtain ⟨v, I1, h1, h2⟩ := bn_some h
    refine ⟨gf_obj (c := 11) (by decide) g0, rfl, some (0, .int v), I1, trivial, ?_, h2⟩
    exact s_A_speakers_0 hcs a1  (Q := fun w I => w = v ∧ I = I1) (fun w I q => by obtain ⟨rfl, rfl⟩ := q; rfl) I v I1 h1 ⟨rfl, rfl⟩
  · cases h
theorem S_A_speakers {d : Nat} (hd : 4 ≤ d) : Snd L X d 143 2 (W_A_speakers F_A_speakers) := by
  obtain ⟨e, rfl⟩ : ∃ e, d = e + 1 := ⟨d - 1, by omega⟩
  exact w_A_speakers ⟨S_A_within (by omega), S_Riddles_trueSpeakers (by omega), trivial⟩
set_option maxRecDepth 100000 in
theorem z_A_state : pT[14]? = some (q_A_state, 2, 3, 1, 11) := rfl
def W_A_state (F : Int32 → M Int32) : CSem := fun _ args k => match args with
  | [(t0, .ref a0), (_, .int a1)] => mB (Nat.beq t0 111) <| bn (F a1) fun v => k (some (0, .int v))
  | _ => fl
def cs_A_state (f_A_forget : M Unit) : List (Nat × Nat × CSem) := [(15, 1, W_A_forget f_A_forget)]
def F_A_state (x1 : Int32) : M (Int32) :=
  bn (rd 2 0) fun v1 =>
  bn (wr 2 0 x1) fun _ =>
  bn (F_A_forget) fun _ =>
  rt v1
set_option maxRecDepth 4000 in
theorem e_s_A_state_0 (f_A_forget : M Unit) (x1 : Int32) : wf (β := Int32) L X q_A_state 1 (cs_A_state f_A_forget) [2] [] (fun _ _ _ => fl) (fun v => match v with | some (_, .int x) => rt x | _ => fl) 19 0 [(111, .ref 0), (0, .int x1), (0, dV)] [] = (bn (rd 2 0) fun v1 =>
  bn (wr 2 0 x1) fun _ =>
  bn (f_A_forget) fun _ =>
  rt v1) := rfl
theorem s_A_state_0 {d : Nat} (hcs : AllS L X d (cs_A_state F_A_forget)) (x1 : Int32) {o : Option Value × PH} {Q : (Int32) → MI → Prop} (q0 : ∀ v I, Q v I → o = (some (.int v), HH I)) (I : MI) (r : Int32) (I1 : MI) (h : F_A_state x1 I = some (r, I1)) (hq : Q r I1) : At L X (d + 1) 14 0 [(111, .ref 0), (0, .int x1), (0, dV)] [] I o := by
  refine wf_ok z_A_state hcs ?_ ?_ _ _ _ _ _ ⟨rfl, trivial, trivial, trivial⟩ trivial (unm_refl _ _) ((congrFun (e_s_A_state_0 (L := L) (X := X) F_A_forget x1) I).trans h)
  · intro pc ls st I2 h1 h2 h3 h
    cases h
  · intro v I2 _ h
    split at h
    · cases h; exact q0 _ _ hq
    · cases h
theorem w_A_state {d : Nat} (hcs : AllS L X d (cs_A_state F_A_forget)) : Snd L X (d + 1) 14 2 (W_A_state F_A_state) := by
  refine ⟨_, z_A_state, rfl, fun β args k I r hty hlen h => ?_⟩
  unfold W_A_state at h
  split at h
  · rename_i t0 a0 u1 a1
    obtain ⟨hb0, h⟩ := mB_ok h
    have e0 := Nat.eq_of_beq_eq_true hb0
    have g0 : okB 111 a0 = true := e0 ▸ hty.1
    have e20 := one_111 g0
    subst e20
    obtain ⟨v, I1, h1, h2⟩ := bn_some h
    refine ⟨gf_obj (c := 11) (by decide) g0, rfl, some (0, .int v), I1, trivial, ?_, h2⟩
    exact s_A_state_0 hcs a1  (Q := fun w I => w = v ∧ I = I1) (fun w I q => by obtain ⟨rfl, rfl⟩ := q; rfl) I v I1 h1 ⟨rfl, rfl⟩
  · cases h
theorem S_A_state {d : Nat} (hd : 2 ≤ d) : Snd L X d 14 2 (W_A_state F_A_state) := by
  obtain ⟨e, rfl⟩ : ∃ e, d = e + 1 := ⟨d - 1, by omega⟩
  exact w_A_state ⟨S_A_forget (by omega), trivial⟩
set_option maxRecDepth 100000 in
theorem z_Port_neighbours : pT[114]? = some (q_Port_neighbours, 2, 2, 1, 4) := rfl
def W_Port_neighbours (F : Int32 → M Int32) : CSem := fun _ args k => match args with
  | [(t0, .ref a0), (_, .int a1)] => mB (Nat.beq t0 104) <| bn (F a1) fun v => k (some (0, .int v))
  | _ => fl
def cs_Port_neighbours (f_Port_drawMap : M Unit) : List (Nat × Nat × CSem) := [(115, 1, W_Port_drawMap f_Port_drawMap)]
def F_Port_neighbours (x1 : Int32) : M (Int32) :=
  bn (F_Port_drawMap) fun _ =>
  bn (ld 10 191 x1) fun v1 =>
  rt v1
set_option maxRecDepth 4000 in
theorem e_s_Port_neighbours_0 (f_Port_drawMap : M Unit) (x1 : Int32) : wf (β := Int32) L X q_Port_neighbours 1 (cs_Port_neighbours f_Port_drawMap) [] [] (fun _ _ _ => fl) (fun v => match v with | some (_, .int x) => rt x | _ => fl) 12 0 [(104, .ref 190), (0, .int x1)] [] = (bn (f_Port_drawMap) fun _ =>
  bn (ld 10 191 x1) fun v1 =>
  rt v1) := rfl
theorem s_Port_neighbours_0 {d : Nat} (hcs : AllS L X d (cs_Port_neighbours F_Port_drawMap)) (x1 : Int32) {o : Option Value × PH} {Q : (Int32) → MI → Prop} (q0 : ∀ v I, Q v I → o = (some (.int v), HH I)) (I : MI) (r : Int32) (I1 : MI) (h : F_Port_neighbours x1 I = some (r, I1)) (hq : Q r I1) : At L X (d + 1) 114 0 [(104, .ref 190), (0, .int x1)] [] I o := by
  refine wf_ok z_Port_neighbours hcs ?_ ?_ _ _ _ _ _ ⟨rfl, trivial, trivial⟩ trivial (unm_refl _ _) ((congrFun (e_s_Port_neighbours_0 (L := L) (X := X) F_Port_drawMap x1) I).trans h)
  · intro pc ls st I2 h1 h2 h3 h
    cases h
  · intro v I2 _ h
    split at h
    · cases h; exact q0 _ _ hq
    · cases h
theorem w_Port_neighbours {d : Nat} (hcs : AllS L X d (cs_Port_neighbours F_Port_drawMap)) : Snd L X (d + 1) 114 2 (W_Port_neighbours F_Port_neighbours) := by
  refine ⟨_, z_Port_neighbours, rfl, fun β args k I r hty hlen h => ?_⟩
  unfold W_Port_neighbours at h
  split at h
  · rename_i t0 a0 u1 a1
    obtain ⟨hb0, h⟩ := mB_ok h
    have e0 := Nat.eq_of_beq_eq_true hb0
    have g0 : okB 104 a0 = true := e0 ▸ hty.1
    have e20 := one_104 g0
    subst e20
    obtain ⟨v, I1, h1, h2⟩ := bn_some h
    refine ⟨gf_obj (c := 4) (by decide) g0, rfl, some (0, .int v), I1, trivial, ?_, h2⟩
    exact s_Port_neighbours_0 hcs a1  (Q := fun w I => w = v ∧ I = I1) (fun w I q => by obtain ⟨rfl, rfl⟩ := q; rfl) I v I1 h1 ⟨rfl, rfl⟩
  · cases h
theorem S_Port_neighbours {d : Nat} (hd : 3 ≤ d) : Snd L X d 114 2 (W_Port_neighbours F_Port_neighbours) := by
  obtain ⟨e, rfl⟩ : ∃ e, d = e + 1 := ⟨d - 1, by omega⟩
  exact w_Port_neighbours ⟨S_Port_drawMap (by omega), trivial⟩
set_option maxRecDepth 100000 in
theorem z_A_street : pT[113]? = some (q_A_street, 3, 3, 1, 11) := rfl
def W_A_street (F : Int32 → Int32 → M Int32) : CSem := fun _ args k => match args with
  | [(t0, .ref a0), (_, .int a1), (_, .int a2)] => mB (Nat.beq t0 111) <| bn (F a1 a2) fun v => k (some (0, .int v))
  | _ => fl
def cs_A_street (f_A_within : Int32 → Int32 → Int32 → M Int32) (f_Port_neighbours : Int32 → M Int32) (f_World_outIn : Nat → Int32 → M Int32) : List (Nat × Nat × CSem) := [(18, 3, W_A_within f_A_within), (114, 2, W_Port_neighbours f_Port_neighbours), (52, 2, W_World_outIn f_World_outIn)]
def F_A_street (x1 : Int32) (x2 : Int32) : M (Int32) :=
  bn (F_A_within x1 (0 : Int32) (9 : Int32)) fun v1 =>
  (if v1 = 0 then
    rt (-1 : Int32)
  else
    (if x2 = (0 : Int32) then
      bn (ld 10 3 x1) fun v2 =>
      rt v2
    else (if x2 = (1 : Int32) then
      bn (F_World_outIn 2 x1) fun v3 =>
      rt v3
    else (if x2 = (2 : Int32) then
      bn (F_Port_neighbours x1) fun v4 =>
      rt v4
    else rt (-1 : Int32)))))
set_option maxRecDepth 4000 in
theorem e_s_A_street_0 (f_A_within : Int32 → Int32 → Int32 → M Int32) (f_Port_neighbours : Int32 → M Int32) (f_World_outIn : Nat → Int32 → M Int32) (x1 : Int32) (x2 : Int32) : wf (β := Int32) L X q_A_street 1 (cs_A_street f_A_within f_Port_neighbours f_World_outIn) [] [] (fun _ _ _ => fl) (fun v => match v with | some (_, .int x) => rt x | _ => fl) 34 0 [(111, .ref 0), (0, .int x1), (0, .int x2)] [] = (bn (f_A_within x1 (0 : Int32) (9 : Int32)) fun v1 =>
  (if v1 = 0 then
    rt (-1 : Int32)
  else
    (if x2 = (0 : Int32) then
      bn (ld 10 3 x1) fun v2 =>
      rt v2
    else (if x2 = (1 : Int32) then
      bn (f_World_outIn 2 x1) fun v3 =>
      rt v3
    else (if x2 = (2 : Int32) then
      bn (f_Port_neighbours x1) fun v4 =>
      rt v4
    else rt (-1 : Int32)))))) := rfl
theorem s_A_street_0 {d : Nat} (hcs : AllS L X d (cs_A_street F_A_within F_Port_neighbours F_World_outIn)) (x1 : Int32) (x2 : Int32) {o : Option Value × PH} {Q : (Int32) → MI → Prop} (q0 : ∀ v I, Q v I → o = (some (.int v), HH I)) (I : MI) (r : Int32) (I1 : MI) (h : F_A_street x1 x2 I = some (r, I1)) (hq : Q r I1) : At L X (d + 1) 113 0 [(111, .ref 0), (0, .int x1), (0, .int x2)] [] I o := by
  refine wf_ok z_A_street hcs ?_ ?_ _ _ _ _ _ ⟨rfl, trivial, trivial, trivial⟩ trivial (unm_refl _ _) ((congrFun (e_s_A_street_0 (L := L) (X := X) F_A_within F_Port_neighbours F_World_outIn x1 x2) I).trans h)
  · intro pc ls st I2 h1 h2 h3 h
    cases h
  · intro v I2 _ h
    split at h
    · cases h; exact q0 _ _ hq
    · cases h
theorem w_A_street {d : Nat} (hcs : AllS L X d (cs_A_street F_A_within F_Port_neighbours F_World_outIn)) : Snd L X (d + 1) 113 3 (W_A_street F_A_street) := by
  refine ⟨_, z_A_street, rfl, fun β args k I r hty hlen h => ?_⟩
  unfold W_A_street at h
  split at h
  · rename_i t0 a0 u1 a1 u2 a2
    obtain ⟨hb0, h⟩ := mB_ok h
    have e0 := Nat.eq_of_beq_eq_true hb0
    have g0 : okB 111 a0 = true := e0 ▸ hty.1
    have e20 := one_111 g0
    subst e20
    obtain ⟨v, I1, h1, h2⟩ := bn_some h
    refine ⟨gf_obj (c := 11) (by decide) g0, rfl, some (0, .int v), I1, trivial, ?_, h2⟩
    exact s_A_street_0 hcs a1 a2  (Q := fun w I => w = v ∧ I = I1) (fun w I q => by obtain ⟨rfl, rfl⟩ := q; rfl) I v I1 h1 ⟨rfl, rfl⟩
  · cases h
theorem S_A_street {d : Nat} (hd : 4 ≤ d) : Snd L X d 113 3 (W_A_street F_A_street) := by
  obtain ⟨e, rfl⟩ : ∃ e, d = e + 1 := ⟨d - 1, by omega⟩
  exact w_A_street ⟨S_A_within (by omega), S_Port_neighbours (by omega), S_World_outIn (by omega), trivial⟩
set_option maxRecDepth 100000 in
theorem z_Riddles_weightOf : pT[150]? = some (q_Riddles_weightOf, 2, 4, 1, 6) := rfl
def W_Riddles_weightOf (F : Int32 → M Int32) : CSem := fun _ args k => match args with
  | [(t0, .ref a0), (_, .int a1)] => mB (Nat.beq t0 106) <| bn (F a1) fun v => k (some (0, .int v))
  | _ => fl
def cs_Riddles_weightOf (f_Table_at : Nat → Int32 → Int32 → M Int32) : List (Nat × Nat × CSem) := [(36, 3, W_Table_at f_Table_at)]
def B_Riddles_weightOf_4 (x1 : Int32) (y : Int32 × Int32) : M ((Int32 × Int32) ⊕ (Int32)) :=
  bn (rd 33 3) fun v1 =>
  (if y.2 < v1 then
    bn (F_Table_at 33 y.2 (0 : Int32)) fun v2 =>
    rt (.inl ((y.1 + (((x1 >>> (y.2 &&& 31)) &&& (1 : Int32)) * v2)), (y.2 + (1 : Int32))))
  else
    rt (.inr y.1))
set_option maxRecDepth 4000 in
theorem e_b_Riddles_weightOf_4 (f_Table_at : Nat → Int32 → Int32 → M Int32) (x1 : Int32) (y : Int32 × Int32) : wf (β := (Int32 × Int32) ⊕ (Int32)) L X q_Riddles_weightOf 1 (cs_Riddles_weightOf f_Table_at) [2, 3] [4] (fun pc ls st => mC (Nat.beq pc 4) (mN st <| gI ls 2 fun a2 => gI ls 3 fun a3 => rt (.inl (a2, a3))) (fl)) (fun v => match v with | some (_, .int x) => rt (.inr x) | _ => fl) 34 4 [(106, .ref 195), (0, .int x1), (0, .int y.1), (0, .int y.2)] [] = (bn (rd 33 3) fun v1 =>
  (if y.2 < v1 then
    bn (f_Table_at 33 y.2 (0 : Int32)) fun v2 =>
    rt (.inl ((y.1 + (((x1 >>> (y.2 &&& 31)) &&& (1 : Int32)) * v2)), (y.2 + (1 : Int32))))
  else
    rt (.inr y.1))) := rfl
theorem b_Riddles_weightOf_4 {d : Nat} (hcs : AllS L X d (cs_Riddles_weightOf F_Table_at)) (x1 : Int32) {o : Option Value × PH} {Q : ((Int32 × Int32) ⊕ (Int32)) → MI → Prop} (qb : ∀ y I, Q (.inl y) I → At L X (d + 1) 150 4 [(106, .ref 195), (0, .int x1), (0, .int y.1), (0, .int y.2)] [] I o) (qr : ∀ v I, Q (.inr v) I → o = (some (.int v), HH I)) (y : Int32 × Int32) (I : MI) (r : (Int32 × Int32) ⊕ (Int32)) (I1 : MI) (h : B_Riddles_weightOf_4 x1 y I = some (r, I1)) (hq : Q r I1) : At L X (d + 1) 150 4 [(106, .ref 195), (0, .int x1), (0, .int y.1), (0, .int y.2)] [] I o := by
  refine wf_ok z_Riddles_weightOf hcs ?_ ?_ _ _ _ _ _ ⟨rfl, trivial, trivial, trivial, trivial⟩ trivial (unm_refl _ _) ((congrFun (e_b_Riddles_weightOf_4 (L := L) (X := X) F_Table_at x1 y) I).trans h)
  · intro pc ls st I2 h1 h2 h3 h
    rcases mC_ok h with ⟨hb, h⟩ | ⟨_, h⟩
    · have e := Nat.eq_of_beq_eq_true hb
      subst e
      obtain ⟨hst, h⟩ := mN_ok h
      subst hst
      obtain ⟨a2, n2, h⟩ := gI_ok h
      obtain ⟨a3, n3, h⟩ := gI_ok h
      refine at_leaf (ls2 := [(106, .ref 195), (0, .int x1), (0, .int a2), (0, .int a3)]) h3.1 ⟨Or.inr ⟨_, (h3.2 0 rfl).trans rfl⟩, Or.inr ⟨_, (h3.2 1 rfl).trans rfl⟩, Or.inr n2, Or.inr n3, trivial⟩ ?_
      cases h; exact qb _ _ hq
    cases h
  · intro v I2 _ h
    split at h
    · cases h; exact qr _ _ hq
    · cases h
def K_Riddles_weightOf_4 (x1 : Int32) (x2 : Int32) (x3 : Int32) : M (Int32) :=
  lp (B_Riddles_weightOf_4 x1) FU (x2, x3)
theorem s_Riddles_weightOf_4 {d : Nat} (hcs : AllS L X d (cs_Riddles_weightOf F_Table_at)) (x1 : Int32) (x2 : Int32) (x3 : Int32) {o : Option Value × PH} {Q : (Int32) → MI → Prop} (q0 : ∀ v I, Q v I → o = (some (.int v), HH I)) (I : MI) (r : Int32) (I1 : MI) (h : K_Riddles_weightOf_4 x1 x2 x3 I = some (r, I1)) (hq : Q r I1) : At L X (d + 1) 150 4 [(106, .ref 195), (0, .int x1), (0, .int x2), (0, .int x3)] [] I o := by
  unfold K_Riddles_weightOf_4 at h
  have w0 := fun w => at_lp (body := B_Riddles_weightOf_4 x1) (P := (fun (y : Int32 × Int32) I => At L X (d + 1) 150 4 [(106, .ref 195), (0, .int x1), (0, .int y.1), (0, .int y.2)] [] I o)) (Q := (fun (e : Int32) I => Q e I)) w FU (x2, x3) I r I1 h hq
  refine w0 ?_
  intro y I r I1 h hq
  exact b_Riddles_weightOf_4 hcs x1 (Q := SQ (fun (y : Int32 × Int32) I => At L X (d + 1) 150 4 [(106, .ref 195), (0, .int x1), (0, .int y.1), (0, .int y.2)] [] I o) (fun (e : Int32) I => Q e I)) (fun _ _ w => w) q0 y I r I1 h hq
def F_Riddles_weightOf (x1 : Int32) : M (Int32) :=
  K_Riddles_weightOf_4 x1 (0 : Int32) (0 : Int32)
set_option maxRecDepth 4000 in
theorem e_s_Riddles_weightOf_0 (f_Table_at : Nat → Int32 → Int32 → M Int32) (k_4 : Int32 → Int32 → Int32 → M (Int32)) (x1 : Int32) : wf (β := Int32) L X q_Riddles_weightOf 1 (cs_Riddles_weightOf f_Table_at) [2, 3] [4] (fun pc ls st => mC (Nat.beq pc 4) (mN st <| gI ls 2 fun a2 => gI ls 3 fun a3 => k_4 x1 a2 a3) (fl)) (fun v => match v with | some (_, .int x) => rt x | _ => fl) 34 0 [(106, .ref 195), (0, .int x1), (0, dV), (0, dV)] [] = (k_4 x1 (0 : Int32) (0 : Int32)) := rfl
theorem s_Riddles_weightOf_0 {d : Nat} (hcs : AllS L X d (cs_Riddles_weightOf F_Table_at)) (x1 : Int32) {o : Option Value × PH} {Q : (Int32) → MI → Prop} (q0 : ∀ v I, Q v I → o = (some (.int v), HH I)) (I : MI) (r : Int32) (I1 : MI) (h : F_Riddles_weightOf x1 I = some (r, I1)) (hq : Q r I1) : At L X (d + 1) 150 0 [(106, .ref 195), (0, .int x1), (0, dV), (0, dV)] [] I o := by
  refine wf_ok z_Riddles_weightOf hcs ?_ ?_ _ _ _ _ _ ⟨rfl, trivial, trivial, trivial, trivial⟩ trivial (unm_refl _ _) ((congrFun (e_s_Riddles_weightOf_0 (L := L) (X := X) F_Table_at K_Riddles_weightOf_4 x1) I).trans h)
  · intro pc ls st I2 h1 h2 h3 h
    rcases mC_ok h with ⟨hb, h⟩ | ⟨_, h⟩
    · have e := Nat.eq_of_beq_eq_true hb
      subst e
      obtain ⟨hst, h⟩ := mN_ok h
      subst hst
      obtain ⟨a2, n2, h⟩ := gI_ok h
      obtain ⟨a3, n3, h⟩ := gI_ok h
      refine at_leaf (ls2 := [(106, .ref 195), (0, .int x1), (0, .int a2), (0, .int a3)]) h3.1 ⟨Or.inr ⟨_, (h3.2 0 rfl).trans rfl⟩, Or.inr ⟨_, (h3.2 1 rfl).trans rfl⟩, Or.inr n2, Or.inr n3, trivial⟩ ?_
      exact s_Riddles_weightOf_4 hcs x1 a2 a3 q0 _ _ _ h hq
    cases h
  · intro v I2 _ h
    split at h
    · cases h; exact q0 _ _ hq
    · cases h
theorem w_Riddles_weightOf {d : Nat} (hcs : AllS L X d (cs_Riddles_weightOf F_Table_at)) : Snd L X (d + 1) 150 2 (W_Riddles_weightOf F_Riddles_weightOf) := by
  refine ⟨_, z_Riddles_weightOf, rfl, fun β args k I r hty hlen h => ?_⟩
  unfold W_Riddles_weightOf at h
  split at h
  · rename_i t0 a0 u1 a1
    obtain ⟨hb0, h⟩ := mB_ok h
    have e0 := Nat.eq_of_beq_eq_true hb0
    have g0 : okB 106 a0 = true := e0 ▸ hty.1
    have e20 := one_106 g0
    subst e20
    obtain ⟨v, I1, h1, h2⟩ := bn_some h
    refine ⟨gf_obj (c := 6) (by decide) g0, rfl, some (0, .int v), I1, trivial, ?_, h2⟩
    exact s_Riddles_weightOf_0 hcs a1  (Q := fun w I => w = v ∧ I = I1) (fun w I q => by obtain ⟨rfl, rfl⟩ := q; rfl) I v I1 h1 ⟨rfl, rfl⟩
  · cases h
theorem S_Riddles_weightOf {d : Nat} (hd : 2 ≤ d) : Snd L X d 150 2 (W_Riddles_weightOf F_Riddles_weightOf) := by
  obtain ⟨e, rfl⟩ : ∃ e, d = e + 1 := ⟨d - 1, by omega⟩
  exact w_Riddles_weightOf ⟨S_Table_at (by omega), trivial⟩
set_option maxRecDepth 100000 in
theorem z_Riddles_swingsOf : pT[149]? = some (q_Riddles_swingsOf, 3, 8, 1, 6) := rfl
def W_Riddles_swingsOf (F : Int32 → Int32 → M Int32) : CSem := fun _ args k => match args with
  | [(t0, .ref a0), (_, .int a1), (_, .int a2)] => mB (Nat.beq t0 106) <| bn (F a1 a2) fun v => k (some (0, .int v))
  | _ => fl
def cs_Riddles_swingsOf (f_Riddles_weightOf : Int32 → M Int32) (f_Table_at : Nat → Int32 → Int32 → M Int32) : List (Nat × Nat × CSem) := [(150, 2, W_Riddles_weightOf f_Riddles_weightOf), (36, 3, W_Table_at f_Table_at)]
def B_Riddles_swingsOf_31 (x1 : Int32) (x2 : Int32) (x3 : Int32) (x4 : Int32) (y : Int32 × Int32) : M ((Int32 × Int32) ⊕ (Int32)) :=
  (if y.2 < ((1 : Int32) <<< (x3 &&& 31)) then
    (if ((y.2 >>> (x1 &&& 31)) &&& (1 : Int32)) = 0 then
      bn (F_Riddles_weightOf y.2) fun v1 =>
      (if v1 < x2 then
        (if (v1 + x4) < x2 then
          rt (.inl ((y.1 + (0 : Int32)), (y.2 + (1 : Int32))))
        else
          rt (.inl ((y.1 + (1 : Int32)), (y.2 + (1 : Int32)))))
      else
        rt (.inl ((y.1 + (0 : Int32)), (y.2 + (1 : Int32)))))
    else
      rt (.inl (y.1, (y.2 + (1 : Int32)))))
  else
    rt (.inr y.1))
set_option maxRecDepth 4000 in
theorem e_b_Riddles_swingsOf_31 (f_Riddles_weightOf : Int32 → M Int32) (f_Table_at : Nat → Int32 → Int32 → M Int32) (x1 : Int32) (x2 : Int32) (x3 : Int32) (x4 : Int32) (y : Int32 × Int32) : wf (β := (Int32 × Int32) ⊕ (Int32)) L X q_Riddles_swingsOf 1 (cs_Riddles_swingsOf f_Riddles_weightOf f_Table_at) [5, 6, 7] [31] (fun pc ls st => mC (Nat.beq pc 31) (mN st <| gI ls 5 fun a5 => gI ls 6 fun a6 => gD ls 7 <| rt (.inl (a5, a6))) (fl)) (fun v => match v with | some (_, .int x) => rt (.inr x) | _ => fl) 54 31 [(106, .ref 195), (0, .int x1), (0, .int x2), (0, .int x3), (0, .int x4), (0, .int y.1), (0, .int y.2), (0, dV)] [] = ((if y.2 < ((1 : Int32) <<< (x3 &&& 31)) then
    (if ((y.2 >>> (x1 &&& 31)) &&& (1 : Int32)) = 0 then
      bn (f_Riddles_weightOf y.2) fun v1 =>
      (if v1 < x2 then
        (if (v1 + x4) < x2 then
          rt (.inl ((y.1 + (0 : Int32)), (y.2 + (1 : Int32))))
        else
          rt (.inl ((y.1 + (1 : Int32)), (y.2 + (1 : Int32)))))
      else
        rt (.inl ((y.1 + (0 : Int32)), (y.2 + (1 : Int32)))))
    else
      rt (.inl (y.1, (y.2 + (1 : Int32)))))
  else
    rt (.inr y.1))) := rfl
theorem b_Riddles_swingsOf_31 {d : Nat} (hcs : AllS L X d (cs_Riddles_swingsOf F_Riddles_weightOf F_Table_at)) (x1 : Int32) (x2 : Int32) (x3 : Int32) (x4 : Int32) {o : Option Value × PH} {Q : ((Int32 × Int32) ⊕ (Int32)) → MI → Prop} (qb : ∀ y I, Q (.inl y) I → At L X (d + 1) 149 31 [(106, .ref 195), (0, .int x1), (0, .int x2), (0, .int x3), (0, .int x4), (0, .int y.1), (0, .int y.2), (0, dV)] [] I o) (qr : ∀ v I, Q (.inr v) I → o = (some (.int v), HH I)) (y : Int32 × Int32) (I : MI) (r : (Int32 × Int32) ⊕ (Int32)) (I1 : MI) (h : B_Riddles_swingsOf_31 x1 x2 x3 x4 y I = some (r, I1)) (hq : Q r I1) : At L X (d + 1) 149 31 [(106, .ref 195), (0, .int x1), (0, .int x2), (0, .int x3), (0, .int x4), (0, .int y.1), (0, .int y.2), (0, dV)] [] I o := by
  refine wf_ok z_Riddles_swingsOf hcs ?_ ?_ _ _ _ _ _ ⟨rfl, trivial, trivial, trivial, trivial, trivial, trivial, trivial, trivial⟩ trivial (unm_refl _ _) ((congrFun (e_b_Riddles_swingsOf_31 (L := L) (X := X) F_Riddles_weightOf F_Table_at x1 x2 x3 x4 y) I).trans h)
  · intro pc ls st I2 h1 h2 h3 h
    rcases mC_ok h with ⟨hb, h⟩ | ⟨_, h⟩
    · have e := Nat.eq_of_beq_eq_true hb
      subst e
      obtain ⟨hst, h⟩ := mN_ok h
      subst hst
      obtain ⟨a5, n5, h⟩ := gI_ok h
      obtain ⟨a6, n6, h⟩ := gI_ok h
      obtain ⟨n7, h⟩ := gD_ok h
      refine at_leaf (ls2 := [(106, .ref 195), (0, .int x1), (0, .int x2), (0, .int x3), (0, .int x4), (0, .int a5), (0, .int a6), (0, dV)]) h3.1 ⟨Or.inr ⟨_, (h3.2 0 rfl).trans rfl⟩, Or.inr ⟨_, (h3.2 1 rfl).trans rfl⟩, Or.inr ⟨_, (h3.2 2 rfl).trans rfl⟩, Or.inr ⟨_, (h3.2 3 rfl).trans rfl⟩, Or.inr ⟨_, (h3.2 4 rfl).trans rfl⟩, Or.inr n5, Or.inr n6, Or.inl ⟨rfl, n7⟩, trivial⟩ ?_
      cases h; exact qb _ _ hq
    cases h
  · intro v I2 _ h
    split at h
    · cases h; exact qr _ _ hq
    · cases h
def K_Riddles_swingsOf_31 (x1 : Int32) (x2 : Int32) (x3 : Int32) (x4 : Int32) (x5 : Int32) (x6 : Int32) : M (Int32) :=
  lp (B_Riddles_swingsOf_31 x1 x2 x3 x4) FU (x5, x6)
theorem s_Riddles_swingsOf_31 {d : Nat} (hcs : AllS L X d (cs_Riddles_swingsOf F_Riddles_weightOf F_Table_at)) (x1 : Int32) (x2 : Int32) (x3 : Int32) (x4 : Int32) (x5 : Int32) (x6 : Int32) {o : Option Value × PH} {Q : (Int32) → MI → Prop} (q0 : ∀ v I, Q v I → o = (some (.int v), HH I)) (I : MI) (r : Int32) (I1 : MI) (h : K_Riddles_swingsOf_31 x1 x2 x3 x4 x5 x6 I = some (r, I1)) (hq : Q r I1) : At L X (d + 1) 149 31 [(106, .ref 195), (0, .int x1), (0, .int x2), (0, .int x3), (0, .int x4), (0, .int x5), (0, .int x6), (0, dV)] [] I o := by
  unfold K_Riddles_swingsOf_31 at h
  have w0 := fun w => at_lp (body := B_Riddles_swingsOf_31 x1 x2 x3 x4) (P := (fun (y : Int32 × Int32) I => At L X (d + 1) 149 31 [(106, .ref 195), (0, .int x1), (0, .int x2), (0, .int x3), (0, .int x4), (0, .int y.1), (0, .int y.2), (0, dV)] [] I o)) (Q := (fun (e : Int32) I => Q e I)) w FU (x5, x6) I r I1 h hq
  refine w0 ?_
  intro y I r I1 h hq
  exact b_Riddles_swingsOf_31 hcs x1 x2 x3 x4 (Q := SQ (fun (y : Int32 × Int32) I => At L X (d + 1) 149 31 [(106, .ref 195), (0, .int x1), (0, .int x2), (0, .int x3), (0, .int x4), (0, .int y.1), (0, .int y.2), (0, dV)] [] I o) (fun (e : Int32) I => Q e I)) (fun _ _ w => w) q0 y I r I1 h hq
def F_Riddles_swingsOf (x1 : Int32) (x2 : Int32) : M (Int32) :=
  bn (rd 33 3) fun v1 =>
  bn (F_Table_at 33 x1 (0 : Int32)) fun v2 =>
  K_Riddles_swingsOf_31 x1 x2 v1 v2 (0 : Int32) (0 : Int32)
set_option maxRecDepth 4000 in
theorem e_s_Riddles_swingsOf_0 (f_Riddles_weightOf : Int32 → M Int32) (f_Table_at : Nat → Int32 → Int32 → M Int32) (k_31 : Int32 → Int32 → Int32 → Int32 → Int32 → Int32 → M (Int32)) (x1 : Int32) (x2 : Int32) : wf (β := Int32) L X q_Riddles_swingsOf 1 (cs_Riddles_swingsOf f_Riddles_weightOf f_Table_at) [3, 4, 5, 6] [31] (fun pc ls st => mC (Nat.beq pc 31) (mN st <| gI ls 3 fun a3 => gI ls 4 fun a4 => gI ls 5 fun a5 => gI ls 6 fun a6 => gD ls 7 <| k_31 x1 x2 a3 a4 a5 a6) (fl)) (fun v => match v with | some (_, .int x) => rt x | _ => fl) 54 0 [(106, .ref 195), (0, .int x1), (0, .int x2), (0, dV), (0, dV), (0, dV), (0, dV), (0, dV)] [] = (bn (rd 33 3) fun v1 =>
  bn (f_Table_at 33 x1 (0 : Int32)) fun v2 =>
  k_31 x1 x2 v1 v2 (0 : Int32) (0 : Int32)) := rfl
theorem s_Riddles_swingsOf_0 {d : Nat} (hcs : AllS L X d (cs_Riddles_swingsOf F_Riddles_weightOf F_Table_at)) (x1 : Int32) (x2 : Int32) {o : Option Value × PH} {Q : (Int32) → MI → Prop} (q0 : ∀ v I, Q v I → o = (some (.int v), HH I)) (I : MI) (r : Int32) (I1 : MI) (h : F_Riddles_swingsOf x1 x2 I = some (r, I1)) (hq : Q r I1) : At L X (d + 1) 149 0 [(106, .ref 195), (0, .int x1), (0, .int x2), (0, dV), (0, dV), (0, dV), (0, dV), (0, dV)] [] I o := by
  refine wf_ok z_Riddles_swingsOf hcs ?_ ?_ _ _ _ _ _ ⟨rfl, trivial, trivial, trivial, trivial, trivial, trivial, trivial, trivial⟩ trivial (unm_refl _ _) ((congrFun (e_s_Riddles_swingsOf_0 (L := L) (X := X) F_Riddles_weightOf F_Table_at K_Riddles_swingsOf_31 x1 x2) I).trans h)
  · intro pc ls st I2 h1 h2 h3 h
    rcases mC_ok h with ⟨hb, h⟩ | ⟨_, h⟩
    · have e := Nat.eq_of_beq_eq_true hb
      subst e
      obtain ⟨hst, h⟩ := mN_ok h
      subst hst
      obtain ⟨a3, n3, h⟩ := gI_ok h
      obtain ⟨a4, n4, h⟩ := gI_ok h
      obtain ⟨a5, n5, h⟩ := gI_ok h
      obtain ⟨a6, n6, h⟩ := gI_ok h
      obtain ⟨n7, h⟩ := gD_ok h
      refine at_leaf (ls2 := [(106, .ref 195), (0, .int x1), (0, .int x2), (0, .int a3), (0, .int a4), (0, .int a5), (0, .int a6), (0, dV)]) h3.1 ⟨Or.inr ⟨_, (h3.2 0 rfl).trans rfl⟩, Or.inr ⟨_, (h3.2 1 rfl).trans rfl⟩, Or.inr ⟨_, (h3.2 2 rfl).trans rfl⟩, Or.inr n3, Or.inr n4, Or.inr n5, Or.inr n6, Or.inl ⟨rfl, n7⟩, trivial⟩ ?_
      exact s_Riddles_swingsOf_31 hcs x1 x2 a3 a4 a5 a6 q0 _ _ _ h hq
    cases h
  · intro v I2 _ h
    split at h
    · cases h; exact q0 _ _ hq
    · cases h
theorem w_Riddles_swingsOf {d : Nat} (hcs : AllS L X d (cs_Riddles_swingsOf F_Riddles_weightOf F_Table_at)) : Snd L X (d + 1) 149 3 (W_Riddles_swingsOf F_Riddles_swingsOf) := by
  refine ⟨_, z_Riddles_swingsOf, rfl, fun β args k I r hty hlen h => ?_⟩
  unfold W_Riddles_swingsOf at h
  split at h
  · rename_i t0 a0 u1 a1 u2 a2
    obtain ⟨hb0, h⟩ := mB_ok h
    have e0 := Nat.eq_of_beq_eq_true hb0
    have g0 : okB 106 a0 = true := e0 ▸ hty.1
    have e20 := one_106 g0
    subst e20
    obtain ⟨v, I1, h1, h2⟩ := bn_some h
    refine ⟨gf_obj (c := 6) (by decide) g0, rfl, some (0, .int v), I1, trivial, ?_, h2⟩
    exact s_Riddles_swingsOf_0 hcs a1 a2  (Q := fun w I => w = v ∧ I = I1) (fun w I q => by obtain ⟨rfl, rfl⟩ := q; rfl) I v I1 h1 ⟨rfl, rfl⟩
  · cases h
theorem S_Riddles_swingsOf {d : Nat} (hd : 3 ≤ d) : Snd L X d 149 3 (W_Riddles_swingsOf F_Riddles_swingsOf) := by
  obtain ⟨e, rfl⟩ : ∃ e, d = e + 1 := ⟨d - 1, by omega⟩
  exact w_Riddles_swingsOf ⟨S_Riddles_weightOf (by omega), S_Table_at (by omega), trivial⟩
set_option maxRecDepth 100000 in
theorem z_Riddles_neverSwing : pT[148]? = some (q_Riddles_neverSwing, 2, 4, 1, 6) := rfl
def W_Riddles_neverSwing (F : Int32 → M Int32) : CSem := fun _ args k => match args with
  | [(t0, .ref a0), (_, .int a1)] => mB (Nat.beq t0 106) <| bn (F a1) fun v => k (some (0, .int v))
  | _ => fl
def cs_Riddles_neverSwing (f_Riddles_swingsOf : Int32 → Int32 → M Int32) : List (Nat × Nat × CSem) := [(149, 3, W_Riddles_swingsOf f_Riddles_swingsOf)]
def B_Riddles_neverSwing_4 (x1 : Int32) (y : Int32 × Int32) : M ((Int32 × Int32) ⊕ (Int32)) :=
  bn (rd 33 3) fun v1 =>
  (if y.2 < v1 then
    bn (F_Riddles_swingsOf y.2 x1) fun v2 =>
    (if v2 = 0 then
      rt (.inl ((y.1 + (1 : Int32)), (y.2 + (1 : Int32))))
    else
      rt (.inl ((y.1 + (0 : Int32)), (y.2 + (1 : Int32)))))
  else
    rt (.inr y.1))
set_option maxRecDepth 4000 in
theorem e_b_Riddles_neverSwing_4 (f_Riddles_swingsOf : Int32 → Int32 → M Int32) (x1 : Int32) (y : Int32 × Int32) : wf (β := (Int32 × Int32) ⊕ (Int32)) L X q_Riddles_neverSwing 1 (cs_Riddles_neverSwing f_Riddles_swingsOf) [2, 3] [4] (fun pc ls st => mC (Nat.beq pc 4) (mN st <| gI ls 2 fun a2 => gI ls 3 fun a3 => rt (.inl (a2, a3))) (fl)) (fun v => match v with | some (_, .int x) => rt (.inr x) | _ => fl) 30 4 [(106, .ref 195), (0, .int x1), (0, .int y.1), (0, .int y.2)] [] = (bn (rd 33 3) fun v1 =>
  (if y.2 < v1 then
    bn (f_Riddles_swingsOf y.2 x1) fun v2 =>
    (if v2 = 0 then
      rt (.inl ((y.1 + (1 : Int32)), (y.2 + (1 : Int32))))
    else
      rt (.inl ((y.1 + (0 : Int32)), (y.2 + (1 : Int32)))))
  else
    rt (.inr y.1))) := rfl
theorem b_Riddles_neverSwing_4 {d : Nat} (hcs : AllS L X d (cs_Riddles_neverSwing F_Riddles_swingsOf)) (x1 : Int32) {o : Option Value × PH} {Q : ((Int32 × Int32) ⊕ (Int32)) → MI → Prop} (qb : ∀ y I, Q (.inl y) I → At L X (d + 1) 148 4 [(106, .ref 195), (0, .int x1), (0, .int y.1), (0, .int y.2)] [] I o) (qr : ∀ v I, Q (.inr v) I → o = (some (.int v), HH I)) (y : Int32 × Int32) (I : MI) (r : (Int32 × Int32) ⊕ (Int32)) (I1 : MI) (h : B_Riddles_neverSwing_4 x1 y I = some (r, I1)) (hq : Q r I1) : At L X (d + 1) 148 4 [(106, .ref 195), (0, .int x1), (0, .int y.1), (0, .int y.2)] [] I o := by
  refine wf_ok z_Riddles_neverSwing hcs ?_ ?_ _ _ _ _ _ ⟨rfl, trivial, trivial, trivial, trivial⟩ trivial (unm_refl _ _) ((congrFun (e_b_Riddles_neverSwing_4 (L := L) (X := X) F_Riddles_swingsOf x1 y) I).trans h)
  · intro pc ls st I2 h1 h2 h3 h
    rcases mC_ok h with ⟨hb, h⟩ | ⟨_, h⟩
    · have e := Nat.eq_of_beq_eq_true hb
      subst e
      obtain ⟨hst, h⟩ := mN_ok h
      subst hst
      obtain ⟨a2, n2, h⟩ := gI_ok h
      obtain ⟨a3, n3, h⟩ := gI_ok h
      refine at_leaf (ls2 := [(106, .ref 195), (0, .int x1), (0, .int a2), (0, .int a3)]) h3.1 ⟨Or.inr ⟨_, (h3.2 0 rfl).trans rfl⟩, Or.inr ⟨_, (h3.2 1 rfl).trans rfl⟩, Or.inr n2, Or.inr n3, trivial⟩ ?_
      cases h; exact qb _ _ hq
    cases h
  · intro v I2 _ h
    split at h
    · cases h; exact qr _ _ hq
    · cases h
def K_Riddles_neverSwing_4 (x1 : Int32) (x2 : Int32) (x3 : Int32) : M (Int32) :=
  lp (B_Riddles_neverSwing_4 x1) FU (x2, x3)
theorem s_Riddles_neverSwing_4 {d : Nat} (hcs : AllS L X d (cs_Riddles_neverSwing F_Riddles_swingsOf)) (x1 : Int32) (x2 : Int32) (x3 : Int32) {o : Option Value × PH} {Q : (Int32) → MI → Prop} (q0 : ∀ v I, Q v I → o = (some (.int v), HH I)) (I : MI) (r : Int32) (I1 : MI) (h : K_Riddles_neverSwing_4 x1 x2 x3 I = some (r, I1)) (hq : Q r I1) : At L X (d + 1) 148 4 [(106, .ref 195), (0, .int x1), (0, .int x2), (0, .int x3)] [] I o := by
  unfold K_Riddles_neverSwing_4 at h
  have w0 := fun w => at_lp (body := B_Riddles_neverSwing_4 x1) (P := (fun (y : Int32 × Int32) I => At L X (d + 1) 148 4 [(106, .ref 195), (0, .int x1), (0, .int y.1), (0, .int y.2)] [] I o)) (Q := (fun (e : Int32) I => Q e I)) w FU (x2, x3) I r I1 h hq
  refine w0 ?_
  intro y I r I1 h hq
  exact b_Riddles_neverSwing_4 hcs x1 (Q := SQ (fun (y : Int32 × Int32) I => At L X (d + 1) 148 4 [(106, .ref 195), (0, .int x1), (0, .int y.1), (0, .int y.2)] [] I o) (fun (e : Int32) I => Q e I)) (fun _ _ w => w) q0 y I r I1 h hq
def F_Riddles_neverSwing (x1 : Int32) : M (Int32) :=
  K_Riddles_neverSwing_4 x1 (0 : Int32) (0 : Int32)
set_option maxRecDepth 4000 in
theorem e_s_Riddles_neverSwing_0 (f_Riddles_swingsOf : Int32 → Int32 → M Int32) (k_4 : Int32 → Int32 → Int32 → M (Int32)) (x1 : Int32) : wf (β := Int32) L X q_Riddles_neverSwing 1 (cs_Riddles_neverSwing f_Riddles_swingsOf) [2, 3] [4] (fun pc ls st => mC (Nat.beq pc 4) (mN st <| gI ls 2 fun a2 => gI ls 3 fun a3 => k_4 x1 a2 a3) (fl)) (fun v => match v with | some (_, .int x) => rt x | _ => fl) 30 0 [(106, .ref 195), (0, .int x1), (0, dV), (0, dV)] [] = (k_4 x1 (0 : Int32) (0 : Int32)) := rfl
theorem s_Riddles_neverSwing_0 {d : Nat} (hcs : AllS L X d (cs_Riddles_neverSwing F_Riddles_swingsOf)) (x1 : Int32) {o : Option Value × PH} {Q : (Int32) → MI → Prop} (q0 : ∀ v I, Q v I → o = (some (.int v), HH I)) (I : MI) (r : Int32) (I1 : MI) (h : F_Riddles_neverSwing x1 I = some (r, I1)) (hq : Q r I1) : At L X (d + 1) 148 0 [(106, .ref 195), (0, .int x1), (0, dV), (0, dV)] [] I o := by
  refine wf_ok z_Riddles_neverSwing hcs ?_ ?_ _ _ _ _ _ ⟨rfl, trivial, trivial, trivial, trivial⟩ trivial (unm_refl _ _) ((congrFun (e_s_Riddles_neverSwing_0 (L := L) (X := X) F_Riddles_swingsOf K_Riddles_neverSwing_4 x1) I).trans h)
  · intro pc ls st I2 h1 h2 h3 h
    rcases mC_ok h with ⟨hb, h⟩ | ⟨_, h⟩
    · have e := Nat.eq_of_beq_eq_true hb
      subst e
      obtain ⟨hst, h⟩ := mN_ok h
      subst hst
      obtain ⟨a2, n2, h⟩ := gI_ok h
      obtain ⟨a3, n3, h⟩ := gI_ok h
      refine at_leaf (ls2 := [(106, .ref 195), (0, .int x1), (0, .int a2), (0, .int a3)]) h3.1 ⟨Or.inr ⟨_, (h3.2 0 rfl).trans rfl⟩, Or.inr ⟨_, (h3.2 1 rfl).trans rfl⟩, Or.inr n2, Or.inr n3, trivial⟩ ?_
      exact s_Riddles_neverSwing_4 hcs x1 a2 a3 q0 _ _ _ h hq
    cases h
  · intro v I2 _ h
    split at h
    · cases h; exact q0 _ _ hq
    · cases h
theorem w_Riddles_neverSwing {d : Nat} (hcs : AllS L X d (cs_Riddles_neverSwing F_Riddles_swingsOf)) : Snd L X (d + 1) 148 2 (W_Riddles_neverSwing F_Riddles_neverSwing) := by
  refine ⟨_, z_Riddles_neverSwing, rfl, fun β args k I r hty hlen h => ?_⟩
  unfold W_Riddles_neverSwing at h
  split at h
  · rename_i t0 a0 u1 a1
    obtain ⟨hb0, h⟩ := mB_ok h
    have e0 := Nat.eq_of_beq_eq_true hb0
    have g0 : okB 106 a0 = true := e0 ▸ hty.1
    have e20 := one_106 g0
    subst e20
    obtain ⟨v, I1, h1, h2⟩ := bn_some h
    refine ⟨gf_obj (c := 6) (by decide) g0, rfl, some (0, .int v), I1, trivial, ?_, h2⟩
    exact s_Riddles_neverSwing_0 hcs a1  (Q := fun w I => w = v ∧ I = I1) (fun w I q => by obtain ⟨rfl, rfl⟩ := q; rfl) I v I1 h1 ⟨rfl, rfl⟩
  · cases h
theorem S_Riddles_neverSwing {d : Nat} (hd : 4 ≤ d) : Snd L X d 148 2 (W_Riddles_neverSwing F_Riddles_neverSwing) := by
  obtain ⟨e, rfl⟩ : ∃ e, d = e + 1 := ⟨d - 1, by omega⟩
  exact w_Riddles_neverSwing ⟨S_Riddles_swingsOf (by omega), trivial⟩
set_option maxRecDepth 100000 in
theorem z_A_swings : pT[147]? = some (q_A_swings, 3, 3, 1, 11) := rfl
def W_A_swings (F : Int32 → Int32 → M Int32) : CSem := fun _ args k => match args with
  | [(t0, .ref a0), (_, .int a1), (_, .int a2)] => mB (Nat.beq t0 111) <| bn (F a1 a2) fun v => k (some (0, .int v))
  | _ => fl
def cs_A_swings (f_A_within : Int32 → Int32 → Int32 → M Int32) (f_Riddles_neverSwing : Int32 → M Int32) (f_Riddles_swingsOf : Int32 → Int32 → M Int32) : List (Nat × Nat × CSem) := [(18, 3, W_A_within f_A_within), (148, 2, W_Riddles_neverSwing f_Riddles_neverSwing), (149, 3, W_Riddles_swingsOf f_Riddles_swingsOf)]
def F_A_swings (x1 : Int32) (x2 : Int32) : M (Int32) :=
  bn (F_A_within x2 (1 : Int32) (180 : Int32)) fun v1 =>
  (if v1 = 0 then
    rt (-1 : Int32)
  else
    (if x1 = (-1 : Int32) then
      bn (F_Riddles_neverSwing x2) fun v5 =>
      rt v5
    else
      bn (rd 33 3) fun v2 =>
      bn (F_A_within x1 (0 : Int32) (v2 - (1 : Int32))) fun v3 =>
      (if v3 = 0 then
        rt (-1 : Int32)
      else
        bn (F_Riddles_swingsOf x1 x2) fun v4 =>
        rt v4)))
set_option maxRecDepth 4000 in
theorem e_s_A_swings_0 (f_A_within : Int32 → Int32 → Int32 → M Int32) (f_Riddles_neverSwing : Int32 → M Int32) (f_Riddles_swingsOf : Int32 → Int32 → M Int32) (x1 : Int32) (x2 : Int32) : wf (β := Int32) L X q_A_swings 1 (cs_A_swings f_A_within f_Riddles_neverSwing f_Riddles_swingsOf) [] [] (fun _ _ _ => fl) (fun v => match v with | some (_, .int x) => rt x | _ => fl) 38 0 [(111, .ref 0), (0, .int x1), (0, .int x2)] [] = (bn (f_A_within x2 (1 : Int32) (180 : Int32)) fun v1 =>
  (if v1 = 0 then
    rt (-1 : Int32)
  else
    (if x1 = (-1 : Int32) then
      bn (f_Riddles_neverSwing x2) fun v5 =>
      rt v5
    else
      bn (rd 33 3) fun v2 =>
      bn (f_A_within x1 (0 : Int32) (v2 - (1 : Int32))) fun v3 =>
      (if v3 = 0 then
        rt (-1 : Int32)
      else
        bn (f_Riddles_swingsOf x1 x2) fun v4 =>
        rt v4)))) := rfl
theorem s_A_swings_0 {d : Nat} (hcs : AllS L X d (cs_A_swings F_A_within F_Riddles_neverSwing F_Riddles_swingsOf)) (x1 : Int32) (x2 : Int32) {o : Option Value × PH} {Q : (Int32) → MI → Prop} (q0 : ∀ v I, Q v I → o = (some (.int v), HH I)) (I : MI) (r : Int32) (I1 : MI) (h : F_A_swings x1 x2 I = some (r, I1)) (hq : Q r I1) : At L X (d + 1) 147 0 [(111, .ref 0), (0, .int x1), (0, .int x2)] [] I o := by
  refine wf_ok z_A_swings hcs ?_ ?_ _ _ _ _ _ ⟨rfl, trivial, trivial, trivial⟩ trivial (unm_refl _ _) ((congrFun (e_s_A_swings_0 (L := L) (X := X) F_A_within F_Riddles_neverSwing F_Riddles_swingsOf x1 x2) I).trans h)
  · intro pc ls st I2 h1 h2 h3 h
    cases h
  · intro v I2 _ h
    split at h
    · cases h; exact q0 _ _ hq
    · cases h
theorem w_A_swings {d : Nat} (hcs : AllS L X d (cs_A_swings F_A_within F_Riddles_neverSwing F_Riddles_swingsOf)) : Snd L X (d + 1) 147 3 (W_A_swings F_A_swings) := by
  refine ⟨_, z_A_swings, rfl, fun β args k I r hty hlen h => ?_⟩
  unfold W_A_swings at h
  split at h
  · rename_i t0 a0 u1 a1 u2 a2
    obtain ⟨hb0, h⟩ := mB_ok h
    have e0 := Nat.eq_of_beq_eq_true hb0
    have g0 : okB 111 a0 = true := e0 ▸ hty.1
    have e20 := one_111 g0
    subst e20
    obtain ⟨v, I1, h1, h2⟩ := bn_some h
    refine ⟨gf_obj (c := 11) (by decide) g0, rfl, some (0, .int v), I1, trivial, ?_, h2⟩
    exact s_A_swings_0 hcs a1 a2  (Q := fun w I => w = v ∧ I = I1) (fun w I q => by obtain ⟨rfl, rfl⟩ := q; rfl) I v I1 h1 ⟨rfl, rfl⟩
  · cases h
theorem S_A_swings {d : Nat} (hd : 5 ≤ d) : Snd L X d 147 3 (W_A_swings F_A_swings) := by
  obtain ⟨e, rfl⟩ : ∃ e, d = e + 1 := ⟨d - 1, by omega⟩
  exact w_A_swings ⟨S_A_within (by omega), S_Riddles_neverSwing (by omega), S_Riddles_swingsOf (by omega), trivial⟩
set_option maxRecDepth 100000 in
theorem z_Reader_addToken : pT[72]? = some (q_Reader_addToken, 4, 4, 0, 5) := rfl
def W_Reader_addToken (F : Int32 → Int32 → Int32 → M Unit) : CSem := fun _ args k => match args with
  | [(t0, .ref a0), (_, .int a1), (_, .int a2), (_, .int a3)] => mB (Nat.beq t0 105) <| bn (F a1 a2 a3) fun _ => k none
  | _ => fl
def cs_Reader_addToken : List (Nat × Nat × CSem) := []
def F_Reader_addToken (x1 : Int32) (x2 : Int32) (x3 : Int32) : M (Unit) :=
  bn (rd 93 9) fun v1 =>
  (if (400 : Int32) < v1 then
    rt ()
  else
    bn (rd 93 9) fun v2 =>
    bn (sr 401 107 v2 x1) fun _ =>
    bn (rd 93 9) fun v3 =>
    bn (sr 401 108 v3 x2) fun _ =>
    bn (rd 93 9) fun v4 =>
    bn (sr 401 109 v4 x3) fun _ =>
    bn (rd 93 9) fun v5 =>
    bn (wr 93 9 (v5 + (1 : Int32))) fun _ =>
    rt ())
set_option maxRecDepth 4000 in
theorem e_s_Reader_addToken_0 (x1 : Int32) (x2 : Int32) (x3 : Int32) : wf (β := Unit) L X q_Reader_addToken 0 cs_Reader_addToken [] [] (fun _ _ _ => fl) (fun v => match v with | none => rt () | _ => fl) 34 0 [(105, .ref 93), (0, .int x1), (0, .int x2), (0, .int x3)] [] = (bn (rd 93 9) fun v1 =>
  (if (400 : Int32) < v1 then
    rt ()
  else
    bn (rd 93 9) fun v2 =>
    bn (sr 401 107 v2 x1) fun _ =>
    bn (rd 93 9) fun v3 =>
    bn (sr 401 108 v3 x2) fun _ =>
    bn (rd 93 9) fun v4 =>
    bn (sr 401 109 v4 x3) fun _ =>
    bn (rd 93 9) fun v5 =>
    bn (wr 93 9 (v5 + (1 : Int32))) fun _ =>
    rt ())) := rfl
theorem s_Reader_addToken_0 {d : Nat} (hcs : AllS L X d cs_Reader_addToken) (x1 : Int32) (x2 : Int32) (x3 : Int32) {o : Option Value × PH} {Q : (Unit) → MI → Prop} (q0 : ∀ v I, Q v I → o = (none, HH I)) (I : MI) (r : Unit) (I1 : MI) (h : F_Reader_addToken x1 x2 x3 I = some (r, I1)) (hq : Q r I1) : At L X (d + 1) 72 0 [(105, .ref 93), (0, .int x1), (0, .int x2), (0, .int x3)] [] I o := by
  refine wf_ok z_Reader_addToken hcs ?_ ?_ _ _ _ _ _ ⟨rfl, trivial, trivial, trivial, trivial⟩ trivial (unm_refl _ _) ((congrFun (e_s_Reader_addToken_0 (L := L) (X := X) x1 x2 x3) I).trans h)
  · intro pc ls st I2 h1 h2 h3 h
    cases h
  · intro v I2 _ h
    split at h
    · cases h; exact q0 _ _ hq
    · cases h
theorem w_Reader_addToken {d : Nat} (hcs : AllS L X d cs_Reader_addToken) : Snd L X (d + 1) 72 4 (W_Reader_addToken F_Reader_addToken) := by
  refine ⟨_, z_Reader_addToken, rfl, fun β args k I r hty hlen h => ?_⟩
  unfold W_Reader_addToken at h
  split at h
  · rename_i t0 a0 u1 a1 u2 a2 u3 a3
    obtain ⟨hb0, h⟩ := mB_ok h
    have e0 := Nat.eq_of_beq_eq_true hb0
    have g0 : okB 105 a0 = true := e0 ▸ hty.1
    have e20 := one_105 g0
    subst e20
    obtain ⟨v, I1, h1, h2⟩ := bn_some h
    refine ⟨gf_obj (c := 5) (by decide) g0, rfl, none, I1, trivial, ?_, h2⟩
    exact s_Reader_addToken_0 hcs a1 a2 a3  (Q := fun w I => w = v ∧ I = I1) (fun w I q => by obtain ⟨rfl, rfl⟩ := q; rfl) I v I1 h1 ⟨rfl, rfl⟩
  · cases h
theorem S_Reader_addToken {d : Nat} (hd : 1 ≤ d) : Snd L X d 72 4 (W_Reader_addToken F_Reader_addToken) := by
  obtain ⟨e, rfl⟩ : ∃ e, d = e + 1 := ⟨d - 1, by omega⟩
  exact w_Reader_addToken trivial
set_option maxRecDepth 100000 in
theorem z_Reader_isDigit : pT[73]? = some (q_Reader_isDigit, 1, 1, 2, 99) := rfl
def W_Reader_isDigit (F : Int32 → M Int32) : CSem := fun _ args k => match args with
  | [(_, .int a0)] => bn (F a0) fun v => k (some (0, .int v))
  | _ => fl
def cs_Reader_isDigit : List (Nat × Nat × CSem) := []
def F_Reader_isDigit (x0 : Int32) : M (Int32) :=
  (if x0 < (48 : Int32) then
    bn (gdZ (0 : Int32)) fun _ => rt (0 : Int32)
  else
    (if (57 : Int32) < x0 then
      bn (gdZ (0 : Int32)) fun _ => rt (0 : Int32)
    else
      bn (gdZ (1 : Int32)) fun _ => rt (1 : Int32)))
set_option maxRecDepth 4000 in
theorem e_s_Reader_isDigit_0 (x0 : Int32) : wf (β := Int32) L X q_Reader_isDigit 2 cs_Reader_isDigit [] [] (fun _ _ _ => fl) (fun v => match v with | some (_, .int x) => rt x | _ => fl) 15 0 [(0, .int x0)] [] = ((if x0 < (48 : Int32) then
    bn (gdZ (0 : Int32)) fun _ => rt (0 : Int32)
  else
    (if (57 : Int32) < x0 then
      bn (gdZ (0 : Int32)) fun _ => rt (0 : Int32)
    else
      bn (gdZ (1 : Int32)) fun _ => rt (1 : Int32)))) := rfl
theorem s_Reader_isDigit_0 {d : Nat} (hcs : AllS L X d cs_Reader_isDigit) (x0 : Int32) {o : Option Value × PH} {Q : (Int32) → MI → Prop} (q0 : ∀ v I, Q v I → o = (some (.int v), HH I)) (I : MI) (r : Int32) (I1 : MI) (h : F_Reader_isDigit x0 I = some (r, I1)) (hq : Q r I1) : At L X (d + 1) 73 0 [(0, .int x0)] [] I o := by
  refine wf_ok z_Reader_isDigit hcs ?_ ?_ _ _ _ _ _ ⟨trivial, trivial⟩ trivial (unm_refl _ _) ((congrFun (e_s_Reader_isDigit_0 (L := L) (X := X) x0) I).trans h)
  · intro pc ls st I2 h1 h2 h3 h
    cases h
  · intro v I2 _ h
    split at h
    · cases h; exact q0 _ _ hq
    · cases h
theorem w_Reader_isDigit {d : Nat} (hcs : AllS L X d cs_Reader_isDigit) : Snd L X (d + 1) 73 1 (W_Reader_isDigit F_Reader_isDigit) := by
  refine ⟨_, z_Reader_isDigit, rfl, fun β args k I r hty hlen h => ?_⟩
  unfold W_Reader_isDigit at h
  split at h
  · rename_i u0 a0
    obtain ⟨v, I1, h1, h2⟩ := bn_some h
    refine ⟨rfl, rfl, some (0, .int v), I1, trivial, ?_, h2⟩
    exact s_Reader_isDigit_0 hcs a0  (Q := fun w I => w = v ∧ I = I1) (fun w I q => by obtain ⟨rfl, rfl⟩ := q; rfl) I v I1 h1 ⟨rfl, rfl⟩
  · cases h
theorem S_Reader_isDigit {d : Nat} (hd : 1 ≤ d) : Snd L X d 73 1 (W_Reader_isDigit F_Reader_isDigit) := by
  obtain ⟨e, rfl⟩ : ∃ e, d = e + 1 := ⟨d - 1, by omega⟩
  exact w_Reader_isDigit trivial
set_option maxRecDepth 100000 in
theorem z_Reader_isLetter : pT[69]? = some (q_Reader_isLetter, 1, 1, 2, 99) := rfl
def W_Reader_isLetter (F : Int32 → M Int32) : CSem := fun _ args k => match args with
  | [(_, .int a0)] => bn (F a0) fun v => k (some (0, .int v))
  | _ => fl
def cs_Reader_isLetter : List (Nat × Nat × CSem) := []
def F_Reader_isLetter (x0 : Int32) : M (Int32) :=
  (if x0 < (97 : Int32) then
    (if x0 < (65 : Int32) then
      bn (gdZ (0 : Int32)) fun _ => rt (0 : Int32)
    else
      (if (90 : Int32) < x0 then
        bn (gdZ (0 : Int32)) fun _ => rt (0 : Int32)
      else
        bn (gdZ (1 : Int32)) fun _ => rt (1 : Int32)))
  else
    (if (122 : Int32) < x0 then
      (if x0 < (65 : Int32) then
        bn (gdZ (0 : Int32)) fun _ => rt (0 : Int32)
      else
        (if (90 : Int32) < x0 then
          bn (gdZ (0 : Int32)) fun _ => rt (0 : Int32)
        else
          bn (gdZ (1 : Int32)) fun _ => rt (1 : Int32)))
    else
      bn (gdZ (1 : Int32)) fun _ => rt (1 : Int32)))
set_option maxRecDepth 4000 in
theorem e_s_Reader_isLetter_0 (x0 : Int32) : wf (β := Int32) L X q_Reader_isLetter 2 cs_Reader_isLetter [] [] (fun _ _ _ => fl) (fun v => match v with | some (_, .int x) => rt x | _ => fl) 21 0 [(0, .int x0)] [] = ((if x0 < (97 : Int32) then
    (if x0 < (65 : Int32) then
      bn (gdZ (0 : Int32)) fun _ => rt (0 : Int32)
    else
      (if (90 : Int32) < x0 then
        bn (gdZ (0 : Int32)) fun _ => rt (0 : Int32)
      else
        bn (gdZ (1 : Int32)) fun _ => rt (1 : Int32)))
  else
    (if (122 : Int32) < x0 then
      (if x0 < (65 : Int32) then
        bn (gdZ (0 : Int32)) fun _ => rt (0 : Int32)
      else
        (if (90 : Int32) < x0 then
          bn (gdZ (0 : Int32)) fun _ => rt (0 : Int32)
        else
          bn (gdZ (1 : Int32)) fun _ => rt (1 : Int32)))
    else
      bn (gdZ (1 : Int32)) fun _ => rt (1 : Int32)))) := rfl
theorem s_Reader_isLetter_0 {d : Nat} (hcs : AllS L X d cs_Reader_isLetter) (x0 : Int32) {o : Option Value × PH} {Q : (Int32) → MI → Prop} (q0 : ∀ v I, Q v I → o = (some (.int v), HH I)) (I : MI) (r : Int32) (I1 : MI) (h : F_Reader_isLetter x0 I = some (r, I1)) (hq : Q r I1) : At L X (d + 1) 69 0 [(0, .int x0)] [] I o := by
  refine wf_ok z_Reader_isLetter hcs ?_ ?_ _ _ _ _ _ ⟨trivial, trivial⟩ trivial (unm_refl _ _) ((congrFun (e_s_Reader_isLetter_0 (L := L) (X := X) x0) I).trans h)
  · intro pc ls st I2 h1 h2 h3 h
    cases h
  · intro v I2 _ h
    split at h
    · cases h; exact q0 _ _ hq
    · cases h
theorem w_Reader_isLetter {d : Nat} (hcs : AllS L X d cs_Reader_isLetter) : Snd L X (d + 1) 69 1 (W_Reader_isLetter F_Reader_isLetter) := by
  refine ⟨_, z_Reader_isLetter, rfl, fun β args k I r hty hlen h => ?_⟩
  unfold W_Reader_isLetter at h
  split at h
  · rename_i u0 a0
    obtain ⟨v, I1, h1, h2⟩ := bn_some h
    refine ⟨rfl, rfl, some (0, .int v), I1, trivial, ?_, h2⟩
    exact s_Reader_isLetter_0 hcs a0  (Q := fun w I => w = v ∧ I = I1) (fun w I q => by obtain ⟨rfl, rfl⟩ := q; rfl) I v I1 h1 ⟨rfl, rfl⟩
  · cases h
theorem S_Reader_isLetter {d : Nat} (hd : 1 ≤ d) : Snd L X d 69 1 (W_Reader_isLetter F_Reader_isLetter) := by
  obtain ⟨e, rfl⟩ : ∃ e, d = e + 1 := ⟨d - 1, by omega⟩
  exact w_Reader_isLetter trivial
set_option maxRecDepth 100000 in
theorem z_Reader_matches : pT[71]? = some (q_Reader_matches, 4, 5, 2, 5) := rfl
def W_Reader_matches (F : Int32 → Int32 → Int32 → M Int32) : CSem := fun _ args k => match args with
  | [(t0, .ref a0), (_, .int a1), (_, .int a2), (_, .int a3)] => mB (Nat.beq t0 105) <| bn (F a1 a2 a3) fun v => k (some (0, .int v))
  | _ => fl
def cs_Reader_matches : List (Nat × Nat × CSem) := []
def B_Reader_matches_3 (x1 : Int32) (x2 : Int32) (x3 : Int32) (y : Int32) : M ((Int32) ⊕ (Int32)) :=
  (if y < x3 then
    bn (gd (inR ((x1 + y) - x2) 122)) fun _ =>
    bn (ld 400 106 y) fun v1 =>
    (if (kwC (((x1 + y) - x2)).toNatClampNeg) = v1 then
      rt (.inl (y + (1 : Int32)))
    else
      bn (gdZ (0 : Int32)) fun _ => rt (.inr (0 : Int32)))
  else
    bn (gdZ (1 : Int32)) fun _ => rt (.inr (1 : Int32)))
set_option maxRecDepth 4000 in
theorem e_b_Reader_matches_3 (x1 : Int32) (x2 : Int32) (x3 : Int32) (y : Int32) : wf (β := (Int32) ⊕ (Int32)) L X q_Reader_matches 2 cs_Reader_matches [4] [3] (fun pc ls st => mC (Nat.beq pc 3) (mN st <| gI ls 4 fun a4 => rt (.inl a4)) (fl)) (fun v => match v with | some (_, .int x) => rt (.inr x) | _ => fl) 28 3 [(105, .ref 93), (0, .int x1), (0, .int x2), (0, .int x3), (0, .int y)] [] = ((if y < x3 then
    bn (gd (inR ((x1 + y) - x2) 122)) fun _ =>
    bn (ld 400 106 y) fun v1 =>
    (if (kwC (((x1 + y) - x2)).toNatClampNeg) = v1 then
      rt (.inl (y + (1 : Int32)))
    else
      bn (gdZ (0 : Int32)) fun _ => rt (.inr (0 : Int32)))
  else
    bn (gdZ (1 : Int32)) fun _ => rt (.inr (1 : Int32)))) := rfl
theorem b_Reader_matches_3 {d : Nat} (hcs : AllS L X d cs_Reader_matches) (x1 : Int32) (x2 : Int32) (x3 : Int32) {o : Option Value × PH} {Q : ((Int32) ⊕ (Int32)) → MI → Prop} (qb : ∀ y I, Q (.inl y) I → At L X (d + 1) 71 3 [(105, .ref 93), (0, .int x1), (0, .int x2), (0, .int x3), (0, .int y)] [] I o) (qr : ∀ v I, Q (.inr v) I → o = (some (.int v), HH I)) (y : Int32) (I : MI) (r : (Int32) ⊕ (Int32)) (I1 : MI) (h : B_Reader_matches_3 x1 x2 x3 y I = some (r, I1)) (hq : Q r I1) : At L X (d + 1) 71 3 [(105, .ref 93), (0, .int x1), (0, .int x2), (0, .int x3), (0, .int y)] [] I o := by
  refine wf_ok z_Reader_matches hcs ?_ ?_ _ _ _ _ _ ⟨rfl, trivial, trivial, trivial, trivial, trivial⟩ trivial (unm_refl _ _) ((congrFun (e_b_Reader_matches_3 (L := L) (X := X) x1 x2 x3 y) I).trans h)
  · intro pc ls st I2 h1 h2 h3 h
    rcases mC_ok h with ⟨hb, h⟩ | ⟨_, h⟩
    · have e := Nat.eq_of_beq_eq_true hb
      subst e
      obtain ⟨hst, h⟩ := mN_ok h
      subst hst
      obtain ⟨a4, n4, h⟩ := gI_ok h
      refine at_leaf (ls2 := [(105, .ref 93), (0, .int x1), (0, .int x2), (0, .int x3), (0, .int a4)]) h3.1 ⟨Or.inr ⟨_, (h3.2 0 rfl).trans rfl⟩, Or.inr ⟨_, (h3.2 1 rfl).trans rfl⟩, Or.inr ⟨_, (h3.2 2 rfl).trans rfl⟩, Or.inr ⟨_, (h3.2 3 rfl).trans rfl⟩, Or.inr n4, trivial⟩ ?_
      cases h; exact qb _ _ hq
    cases h
  · intro v I2 _ h
    split at h
    · cases h; exact qr _ _ hq
    · cases h
def K_Reader_matches_3 (x1 : Int32) (x2 : Int32) (x3 : Int32) (x4 : Int32) : M (Int32) :=
  lp (B_Reader_matches_3 x1 x2 x3) FU x4
theorem s_Reader_matches_3 {d : Nat} (hcs : AllS L X d cs_Reader_matches) (x1 : Int32) (x2 : Int32) (x3 : Int32) (x4 : Int32) {o : Option Value × PH} {Q : (Int32) → MI → Prop} (q0 : ∀ v I, Q v I → o = (some (.int v), HH I)) (I : MI) (r : Int32) (I1 : MI) (h : K_Reader_matches_3 x1 x2 x3 x4 I = some (r, I1)) (hq : Q r I1) : At L X (d + 1) 71 3 [(105, .ref 93), (0, .int x1), (0, .int x2), (0, .int x3), (0, .int x4)] [] I o := by
  unfold K_Reader_matches_3 at h
  have w0 := fun w => at_lp (body := B_Reader_matches_3 x1 x2 x3) (P := (fun (y : Int32) I => At L X (d + 1) 71 3 [(105, .ref 93), (0, .int x1), (0, .int x2), (0, .int x3), (0, .int y)] [] I o)) (Q := (fun (e : Int32) I => Q e I)) w FU x4 I r I1 h hq
  refine w0 ?_
  intro y I r I1 h hq
  exact b_Reader_matches_3 hcs x1 x2 x3 (Q := SQ (fun (y : Int32) I => At L X (d + 1) 71 3 [(105, .ref 93), (0, .int x1), (0, .int x2), (0, .int x3), (0, .int y)] [] I o) (fun (e : Int32) I => Q e I)) (fun _ _ w => w) q0 y I r I1 h hq
def F_Reader_matches (x1 : Int32) (x2 : Int32) (x3 : Int32) : M (Int32) :=
  K_Reader_matches_3 x1 x2 x3 x2
set_option maxRecDepth 4000 in
theorem e_s_Reader_matches_0 (k_3 : Int32 → Int32 → Int32 → Int32 → M (Int32)) (x1 : Int32) (x2 : Int32) (x3 : Int32) : wf (β := Int32) L X q_Reader_matches 2 cs_Reader_matches [4] [3] (fun pc ls st => mC (Nat.beq pc 3) (mN st <| gI ls 4 fun a4 => k_3 x1 x2 x3 a4) (fl)) (fun v => match v with | some (_, .int x) => rt x | _ => fl) 28 0 [(105, .ref 93), (0, .int x1), (0, .int x2), (0, .int x3), (0, dV)] [] = (k_3 x1 x2 x3 x2) := rfl
theorem s_Reader_matches_0 {d : Nat} (hcs : AllS L X d cs_Reader_matches) (x1 : Int32) (x2 : Int32) (x3 : Int32) {o : Option Value × PH} {Q : (Int32) → MI → Prop} (q0 : ∀ v I, Q v I → o = (some (.int v), HH I)) (I : MI) (r : Int32) (I1 : MI) (h : F_Reader_matches x1 x2 x3 I = some (r, I1)) (hq : Q r I1) : At L X (d + 1) 71 0 [(105, .ref 93), (0, .int x1), (0, .int x2), (0, .int x3), (0, dV)] [] I o := by
  refine wf_ok z_Reader_matches hcs ?_ ?_ _ _ _ _ _ ⟨rfl, trivial, trivial, trivial, trivial, trivial⟩ trivial (unm_refl _ _) ((congrFun (e_s_Reader_matches_0 (L := L) (X := X) K_Reader_matches_3 x1 x2 x3) I).trans h)
  · intro pc ls st I2 h1 h2 h3 h
    rcases mC_ok h with ⟨hb, h⟩ | ⟨_, h⟩
    · have e := Nat.eq_of_beq_eq_true hb
      subst e
      obtain ⟨hst, h⟩ := mN_ok h
      subst hst
      obtain ⟨a4, n4, h⟩ := gI_ok h
      refine at_leaf (ls2 := [(105, .ref 93), (0, .int x1), (0, .int x2), (0, .int x3), (0, .int a4)]) h3.1 ⟨Or.inr ⟨_, (h3.2 0 rfl).trans rfl⟩, Or.inr ⟨_, (h3.2 1 rfl).trans rfl⟩, Or.inr ⟨_, (h3.2 2 rfl).trans rfl⟩, Or.inr ⟨_, (h3.2 3 rfl).trans rfl⟩, Or.inr n4, trivial⟩ ?_
      exact s_Reader_matches_3 hcs x1 x2 x3 a4 q0 _ _ _ h hq
    cases h
  · intro v I2 _ h
    split at h
    · cases h; exact q0 _ _ hq
    · cases h
theorem w_Reader_matches {d : Nat} (hcs : AllS L X d cs_Reader_matches) : Snd L X (d + 1) 71 4 (W_Reader_matches F_Reader_matches) := by
  refine ⟨_, z_Reader_matches, rfl, fun β args k I r hty hlen h => ?_⟩
  unfold W_Reader_matches at h
  split at h
  · rename_i t0 a0 u1 a1 u2 a2 u3 a3
    obtain ⟨hb0, h⟩ := mB_ok h
    have e0 := Nat.eq_of_beq_eq_true hb0
    have g0 : okB 105 a0 = true := e0 ▸ hty.1
    have e20 := one_105 g0
    subst e20
    obtain ⟨v, I1, h1, h2⟩ := bn_some h
    refine ⟨gf_obj (c := 5) (by decide) g0, rfl, some (0, .int v), I1, trivial, ?_, h2⟩
    exact s_Reader_matches_0 hcs a1 a2 a3  (Q := fun w I => w = v ∧ I = I1) (fun w I q => by obtain ⟨rfl, rfl⟩ := q; rfl) I v I1 h1 ⟨rfl, rfl⟩
  · cases h
theorem S_Reader_matches {d : Nat} (hd : 1 ≤ d) : Snd L X d 71 4 (W_Reader_matches F_Reader_matches) := by
  obtain ⟨e, rfl⟩ : ∃ e, d = e + 1 := ⟨d - 1, by omega⟩
  exact w_Reader_matches trivial
set_option maxRecDepth 100000 in
theorem z_Reader_keyword : pT[70]? = some (q_Reader_keyword, 3, 6, 1, 5) := rfl
def W_Reader_keyword (F : Int32 → Int32 → M Int32) : CSem := fun _ args k => match args with
  | [(t0, .ref a0), (_, .int a1), (_, .int a2)] => mB (Nat.beq t0 105) <| bn (F a1 a2) fun v => k (some (0, .int v))
  | _ => fl
def cs_Reader_keyword (f_Reader_matches : Int32 → Int32 → Int32 → M Int32) : List (Nat × Nat × CSem) := [(71, 4, W_Reader_matches f_Reader_matches)]
def K_Reader_keyword_40 (x1 : Int32) (x2 : Int32) (x3 : Int32) (x4 : Int32) (x5 : Int32) : M ((Int32 × Int32 × Int32) ⊕ (Int32)) :=
  (if (x5 - x3) = (x2 - x1) then
    bn (F_Reader_matches x3 x1 x2) fun v1 =>
    (if v1 = 0 then
      rt (.inl ((x5 + (1 : Int32)), (x4 + (1 : Int32)), (x5 + (1 : Int32))))
    else
      rt (.inr x4))
  else
    rt (.inl ((x5 + (1 : Int32)), (x4 + (1 : Int32)), (x5 + (1 : Int32)))))
set_option maxRecDepth 4000 in
theorem e_s_Reader_keyword_40 (f_Reader_matches : Int32 → Int32 → Int32 → M Int32) (x1 : Int32) (x2 : Int32) (x3 : Int32) (x4 : Int32) (x5 : Int32) : wf (β := (Int32 × Int32 × Int32) ⊕ (Int32)) L X q_Reader_keyword 1 (cs_Reader_keyword f_Reader_matches) [3, 4, 5] [8, 40] (fun pc ls st => mC (Nat.beq pc 8) (mN st <| gI ls 3 fun a3 => gI ls 4 fun a4 => gI ls 5 fun a5 => rt (.inl (a3, a4, a5))) (fl)) (fun v => match v with | some (_, .int x) => rt (.inr x) | _ => fl) 48 40 [(105, .ref 93), (0, .int x1), (0, .int x2), (0, .int x3), (0, .int x4), (0, .int x5)] [] = ((if (x5 - x3) = (x2 - x1) then
    bn (f_Reader_matches x3 x1 x2) fun v1 =>
    (if v1 = 0 then
      rt (.inl ((x5 + (1 : Int32)), (x4 + (1 : Int32)), (x5 + (1 : Int32))))
    else
      rt (.inr x4))
  else
    rt (.inl ((x5 + (1 : Int32)), (x4 + (1 : Int32)), (x5 + (1 : Int32)))))) := rfl
theorem s_Reader_keyword_40 {d : Nat} (hcs : AllS L X d (cs_Reader_keyword F_Reader_matches)) (x1 : Int32) (x2 : Int32) (x3 : Int32) (x4 : Int32) (x5 : Int32) {o : Option Value × PH} {Q : ((Int32 × Int32 × Int32) ⊕ (Int32)) → MI → Prop} (qb : ∀ y I, Q (.inl y) I → At L X (d + 1) 70 8 [(105, .ref 93), (0, .int x1), (0, .int x2), (0, .int y.1), (0, .int y.2.1), (0, .int y.2.2)] [] I o) (qr : ∀ v I, Q (.inr v) I → o = (some (.int v), HH I)) (I : MI) (r : (Int32 × Int32 × Int32) ⊕ (Int32)) (I1 : MI) (h : K_Reader_keyword_40 x1 x2 x3 x4 x5 I = some (r, I1)) (hq : Q r I1) : At L X (d + 1) 70 40 [(105, .ref 93), (0, .int x1), (0, .int x2), (0, .int x3), (0, .int x4), (0, .int x5)] [] I o := by
  refine wf_ok z_Reader_keyword hcs ?_ ?_ _ _ _ _ _ ⟨rfl, trivial, trivial, trivial, trivial, trivial, trivial⟩ trivial (unm_refl _ _) ((congrFun (e_s_Reader_keyword_40 (L := L) (X := X) F_Reader_matches x1 x2 x3 x4 x5) I).trans h)
  · intro pc ls st I2 h1 h2 h3 h
    rcases mC_ok h with ⟨hb, h⟩ | ⟨_, h⟩
    · have e := Nat.eq_of_beq_eq_true hb
      subst e
      obtain ⟨hst, h⟩ := mN_ok h
      subst hst
      obtain ⟨a3, n3, h⟩ := gI_ok h
      obtain ⟨a4, n4, h⟩ := gI_ok h
      obtain ⟨a5, n5, h⟩ := gI_ok h
      refine at_leaf (ls2 := [(105, .ref 93), (0, .int x1), (0, .int x2), (0, .int a3), (0, .int a4), (0, .int a5)]) h3.1 ⟨Or.inr ⟨_, (h3.2 0 rfl).trans rfl⟩, Or.inr ⟨_, (h3.2 1 rfl).trans rfl⟩, Or.inr ⟨_, (h3.2 2 rfl).trans rfl⟩, Or.inr n3, Or.inr n4, Or.inr n5, trivial⟩ ?_
      cases h; exact qb _ _ hq
    cases h
  · intro v I2 _ h
    split at h
    · cases h; exact qr _ _ hq
    · cases h
def B_Reader_keyword_8 (x1 : Int32) (x2 : Int32) (y : Int32 × Int32 × Int32) : M ((Int32 × Int32 × Int32) ⊕ (Int32)) :=
  (if (Int32.ofNat 122) < y.2.2 then
    rt (.inr (-1 : Int32))
  else
    (if y.2.2 = (Int32.ofNat 122) then
      K_Reader_keyword_40 x1 x2 y.1 y.2.1 y.2.2
    else
      bn (gd (inR y.2.2 122)) fun _ =>
      (if (kwC (y.2.2).toNatClampNeg) = (32 : Int32) then
        K_Reader_keyword_40 x1 x2 y.1 y.2.1 y.2.2
      else
        rt (.inl (y.1, y.2.1, (y.2.2 + (1 : Int32)))))))
set_option maxRecDepth 4000 in
theorem e_b_Reader_keyword_8 (f_Reader_matches : Int32 → Int32 → Int32 → M Int32) (k_40 : Int32 → Int32 → Int32 → Int32 → Int32 → M ((Int32 × Int32 × Int32) ⊕ (Int32))) (x1 : Int32) (x2 : Int32) (y : Int32 × Int32 × Int32) : wf (β := (Int32 × Int32 × Int32) ⊕ (Int32)) L X q_Reader_keyword 1 (cs_Reader_keyword f_Reader_matches) [5] [8, 40] (fun pc ls st => mC (Nat.beq pc 8) (mN st <| gI ls 5 fun a5 => rt (.inl (y.1, y.2.1, a5))) (mC (Nat.beq pc 40) (mN st <| gI ls 5 fun a5 => k_40 x1 x2 y.1 y.2.1 a5) (fl))) (fun v => match v with | some (_, .int x) => rt (.inr x) | _ => fl) 48 8 [(105, .ref 93), (0, .int x1), (0, .int x2), (0, .int y.1), (0, .int y.2.1), (0, .int y.2.2)] [] = ((if (Int32.ofNat 122) < y.2.2 then
    rt (.inr (-1 : Int32))
  else
    (if y.2.2 = (Int32.ofNat 122) then
      k_40 x1 x2 y.1 y.2.1 y.2.2
    else
      bn (gd (inR y.2.2 122)) fun _ =>
      (if (kwC (y.2.2).toNatClampNeg) = (32 : Int32) then
        k_40 x1 x2 y.1 y.2.1 y.2.2
      else
        rt (.inl (y.1, y.2.1, (y.2.2 + (1 : Int32)))))))) := rfl
theorem b_Reader_keyword_8 {d : Nat} (hcs : AllS L X d (cs_Reader_keyword F_Reader_matches)) (x1 : Int32) (x2 : Int32) {o : Option Value × PH} {Q : ((Int32 × Int32 × Int32) ⊕ (Int32)) → MI → Prop} (qb : ∀ y I, Q (.inl y) I → At L X (d + 1) 70 8 [(105, .ref 93), (0, .int x1), (0, .int x2), (0, .int y.1), (0, .int y.2.1), (0, .int y.2.2)] [] I o) (qr : ∀ v I, Q (.inr v) I → o = (some (.int v), HH I)) (y : Int32 × Int32 × Int32) (I : MI) (r : (Int32 × Int32 × Int32) ⊕ (Int32)) (I1 : MI) (h : B_Reader_keyword_8 x1 x2 y I = some (r, I1)) (hq : Q r I1) : At L X (d + 1) 70 8 [(105, .ref 93), (0, .int x1), (0, .int x2), (0, .int y.1), (0, .int y.2.1), (0, .int y.2.2)] [] I o := by
  refine wf_ok z_Reader_keyword hcs ?_ ?_ _ _ _ _ _ ⟨rfl, trivial, trivial, trivial, trivial, trivial, trivial⟩ trivial (unm_refl _ _) ((congrFun (e_b_Reader_keyword_8 (L := L) (X := X) F_Reader_matches K_Reader_keyword_40 x1 x2 y) I).trans h)
  · intro pc ls st I2 h1 h2 h3 h
    rcases mC_ok h with ⟨hb, h⟩ | ⟨_, h⟩
    · have e := Nat.eq_of_beq_eq_true hb
      subst e
      obtain ⟨hst, h⟩ := mN_ok h
      subst hst
      obtain ⟨a5, n5, h⟩ := gI_ok h
      refine at_leaf (ls2 := [(105, .ref 93), (0, .int x1), (0, .int x2), (0, .int y.1), (0, .int y.2.1), (0, .int a5)]) h3.1 ⟨Or.inr ⟨_, (h3.2 0 rfl).trans rfl⟩, Or.inr ⟨_, (h3.2 1 rfl).trans rfl⟩, Or.inr ⟨_, (h3.2 2 rfl).trans rfl⟩, Or.inr ⟨_, (h3.2 3 rfl).trans rfl⟩, Or.inr ⟨_, (h3.2 4 rfl).trans rfl⟩, Or.inr n5, trivial⟩ ?_
      cases h; exact qb _ _ hq
    rcases mC_ok h with ⟨hb, h⟩ | ⟨_, h⟩
    · have e := Nat.eq_of_beq_eq_true hb
      subst e
      obtain ⟨hst, h⟩ := mN_ok h
      subst hst
      obtain ⟨a5, n5, h⟩ := gI_ok h
      refine at_leaf (ls2 := [(105, .ref 93), (0, .int x1), (0, .int x2), (0, .int y.1), (0, .int y.2.1), (0, .int a5)]) h3.1 ⟨Or.inr ⟨_, (h3.2 0 rfl).trans rfl⟩, Or.inr ⟨_, (h3.2 1 rfl).trans rfl⟩, Or.inr ⟨_, (h3.2 2 rfl).trans rfl⟩, Or.inr ⟨_, (h3.2 3 rfl).trans rfl⟩, Or.inr ⟨_, (h3.2 4 rfl).trans rfl⟩, Or.inr n5, trivial⟩ ?_
      exact s_Reader_keyword_40 hcs x1 x2 y.1 y.2.1 a5 qb qr _ _ _ h hq
    cases h
  · intro v I2 _ h
    split at h
    · cases h; exact qr _ _ hq
    · cases h
def K_Reader_keyword_8 (x1 : Int32) (x2 : Int32) (x3 : Int32) (x4 : Int32) (x5 : Int32) : M (Int32) :=
  lp (B_Reader_keyword_8 x1 x2) FU (x3, x4, x5)
theorem s_Reader_keyword_8 {d : Nat} (hcs : AllS L X d (cs_Reader_keyword F_Reader_matches)) (x1 : Int32) (x2 : Int32) (x3 : Int32) (x4 : Int32) (x5 : Int32) {o : Option Value × PH} {Q : (Int32) → MI → Prop} (q0 : ∀ v I, Q v I → o = (some (.int v), HH I)) (I : MI) (r : Int32) (I1 : MI) (h : K_Reader_keyword_8 x1 x2 x3 x4 x5 I = some (r, I1)) (hq : Q r I1) : At L X (d + 1) 70 8 [(105, .ref 93), (0, .int x1), (0, .int x2), (0, .int x3), (0, .int x4), (0, .int x5)] [] I o := by
  unfold K_Reader_keyword_8 at h
  have w0 := fun w => at_lp (body := B_Reader_keyword_8 x1 x2) (P := (fun (y : Int32 × Int32 × Int32) I => At L X (d + 1) 70 8 [(105, .ref 93), (0, .int x1), (0, .int x2), (0, .int y.1), (0, .int y.2.1), (0, .int y.2.2)] [] I o)) (Q := (fun (e : Int32) I => Q e I)) w FU (x3, x4, x5) I r I1 h hq
  refine w0 ?_
  intro y I r I1 h hq
  exact b_Reader_keyword_8 hcs x1 x2 (Q := SQ (fun (y : Int32 × Int32 × Int32) I => At L X (d + 1) 70 8 [(105, .ref 93), (0, .int x1), (0, .int x2), (0, .int y.1), (0, .int y.2.1), (0, .int y.2.2)] [] I o) (fun (e : Int32) I => Q e I)) (fun _ _ w => w) q0 y I r I1 h hq
def F_Reader_keyword (x1 : Int32) (x2 : Int32) : M (Int32) :=
  K_Reader_keyword_8 x1 x2 (0 : Int32) (0 : Int32) (0 : Int32)
set_option maxRecDepth 4000 in
theorem e_s_Reader_keyword_0 (f_Reader_matches : Int32 → Int32 → Int32 → M Int32) (k_8 : Int32 → Int32 → Int32 → Int32 → Int32 → M (Int32)) (x1 : Int32) (x2 : Int32) : wf (β := Int32) L X q_Reader_keyword 1 (cs_Reader_keyword f_Reader_matches) [3, 4, 5] [8, 40] (fun pc ls st => mC (Nat.beq pc 8) (mN st <| gI ls 3 fun a3 => gI ls 4 fun a4 => gI ls 5 fun a5 => k_8 x1 x2 a3 a4 a5) (fl)) (fun v => match v with | some (_, .int x) => rt x | _ => fl) 48 0 [(105, .ref 93), (0, .int x1), (0, .int x2), (0, dV), (0, dV), (0, dV)] [] = (k_8 x1 x2 (0 : Int32) (0 : Int32) (0 : Int32)) := rfl
theorem s_Reader_keyword_0 {d : Nat} (hcs : AllS L X d (cs_Reader_keyword F_Reader_matches)) (x1 : Int32) (x2 : Int32) {o : Option Value × PH} {Q : (Int32) → MI → Prop} (q0 : ∀ v I, Q v I → o = (some (.int v), HH I)) (I : MI) (r : Int32) (I1 : MI) (h : F_Reader_keyword x1 x2 I = some (r, I1)) (hq : Q r I1) : At L X (d + 1) 70 0 [(105, .ref 93), (0, .int x1), (0, .int x2), (0, dV), (0, dV), (0, dV)] [] I o := by
  refine wf_ok z_Reader_keyword hcs ?_ ?_ _ _ _ _ _ ⟨rfl, trivial, trivial, trivial, trivial, trivial, trivial⟩ trivial (unm_refl _ _) ((congrFun (e_s_Reader_keyword_0 (L := L) (X := X) F_Reader_matches K_Reader_keyword_8 x1 x2) I).trans h)
  · intro pc ls st I2 h1 h2 h3 h
    rcases mC_ok h with ⟨hb, h⟩ | ⟨_, h⟩
    · have e := Nat.eq_of_beq_eq_true hb
      subst e
      obtain ⟨hst, h⟩ := mN_ok h
      subst hst
      obtain ⟨a3, n3, h⟩ := gI_ok h
      obtain ⟨a4, n4, h⟩ := gI_ok h
      obtain ⟨a5, n5, h⟩ := gI_ok h
      refine at_leaf (ls2 := [(105, .ref 93), (0, .int x1), (0, .int x2), (0, .int a3), (0, .int a4), (0, .int a5)]) h3.1 ⟨Or.inr ⟨_, (h3.2 0 rfl).trans rfl⟩, Or.inr ⟨_, (h3.2 1 rfl).trans rfl⟩, Or.inr ⟨_, (h3.2 2 rfl).trans rfl⟩, Or.inr n3, Or.inr n4, Or.inr n5, trivial⟩ ?_
      exact s_Reader_keyword_8 hcs x1 x2 a3 a4 a5 q0 _ _ _ h hq
    cases h
  · intro v I2 _ h
    split at h
    · cases h; exact q0 _ _ hq
    · cases h
theorem w_Reader_keyword {d : Nat} (hcs : AllS L X d (cs_Reader_keyword F_Reader_matches)) : Snd L X (d + 1) 70 3 (W_Reader_keyword F_Reader_keyword) := by
  refine ⟨_, z_Reader_keyword, rfl, fun β args k I r hty hlen h => ?_⟩
  unfold W_Reader_keyword at h
  split at h
  · rename_i t0 a0 u1 a1 u2 a2
    obtain ⟨hb0, h⟩ := mB_ok h
    have e0 := Nat.eq_of_beq_eq_true hb0
    have g0 : okB 105 a0 = true := e0 ▸ hty.1
    have e20 := one_105 g0
    subst e20
    obtain ⟨v, I1, h1, h2⟩ := bn_some h
    refine ⟨gf_obj (c := 5) (by decide) g0, rfl, some (0, .int v), I1, trivial, ?_, h2⟩
    exact s_Reader_keyword_0 hcs a1 a2  (Q := fun w I => w = v ∧ I = I1) (fun w I q => by obtain ⟨rfl, rfl⟩ := q; rfl) I v I1 h1 ⟨rfl, rfl⟩
  · cases h
theorem S_Reader_keyword {d : Nat} (hd : 2 ≤ d) : Snd L X d 70 3 (W_Reader_keyword F_Reader_keyword) := by
  obtain ⟨e, rfl⟩ : ∃ e, d = e + 1 := ⟨d - 1, by omega⟩
  exact w_Reader_keyword ⟨S_Reader_matches (by omega), trivial⟩
set_option maxRecDepth 100000 in
theorem z_Reader_numberAt : pT[74]? = some (q_Reader_numberAt, 3, 5, 1, 5) := rfl
def W_Reader_numberAt (F : Int32 → Int32 → M Int32) : CSem := fun _ args k => match args with
  | [(t0, .ref a0), (_, .int a1), (_, .int a2)] => mB (Nat.beq t0 105) <| bn (F a1 a2) fun v => k (some (0, .int v))
  | _ => fl
def cs_Reader_numberAt : List (Nat × Nat × CSem) := []
def B_Reader_numberAt_5 (x1 : Int32) (x2 : Int32) (y : Int32 × Int32) : M ((Int32 × Int32) ⊕ (Int32)) :=
  (if y.2 < x2 then
    (if y.2 < (x1 + (4 : Int32)) then
      bn (ld 400 106 y.2) fun v1 =>
      rt (.inl (((((10 : Int32) * y.1) + v1) - (48 : Int32)), (y.2 + (1 : Int32))))
    else
      rt (.inr y.1))
  else
    rt (.inr y.1))
set_option maxRecDepth 4000 in
theorem e_b_Reader_numberAt_5 (x1 : Int32) (x2 : Int32) (y : Int32 × Int32) : wf (β := (Int32 × Int32) ⊕ (Int32)) L X q_Reader_numberAt 1 cs_Reader_numberAt [3, 4] [5] (fun pc ls st => mC (Nat.beq pc 5) (mN st <| gI ls 3 fun a3 => gI ls 4 fun a4 => rt (.inl (a3, a4))) (fl)) (fun v => match v with | some (_, .int x) => rt (.inr x) | _ => fl) 32 5 [(105, .ref 93), (0, .int x1), (0, .int x2), (0, .int y.1), (0, .int y.2)] [] = ((if y.2 < x2 then
    (if y.2 < (x1 + (4 : Int32)) then
      bn (ld 400 106 y.2) fun v1 =>
      rt (.inl (((((10 : Int32) * y.1) + v1) - (48 : Int32)), (y.2 + (1 : Int32))))
    else
      rt (.inr y.1))
  else
    rt (.inr y.1))) := rfl
theorem b_Reader_numberAt_5 {d : Nat} (hcs : AllS L X d cs_Reader_numberAt) (x1 : Int32) (x2 : Int32) {o : Option Value × PH} {Q : ((Int32 × Int32) ⊕ (Int32)) → MI → Prop} (qb : ∀ y I, Q (.inl y) I → At L X (d + 1) 74 5 [(105, .ref 93), (0, .int x1), (0, .int x2), (0, .int y.1), (0, .int y.2)] [] I o) (qr : ∀ v I, Q (.inr v) I → o = (some (.int v), HH I)) (y : Int32 × Int32) (I : MI) (r : (Int32 × Int32) ⊕ (Int32)) (I1 : MI) (h : B_Reader_numberAt_5 x1 x2 y I = some (r, I1)) (hq : Q r I1) : At L X (d + 1) 74 5 [(105, .ref 93), (0, .int x1), (0, .int x2), (0, .int y.1), (0, .int y.2)] [] I o := by
  refine wf_ok z_Reader_numberAt hcs ?_ ?_ _ _ _ _ _ ⟨rfl, trivial, trivial, trivial, trivial, trivial⟩ trivial (unm_refl _ _) ((congrFun (e_b_Reader_numberAt_5 (L := L) (X := X) x1 x2 y) I).trans h)
  · intro pc ls st I2 h1 h2 h3 h
    rcases mC_ok h with ⟨hb, h⟩ | ⟨_, h⟩
    · have e := Nat.eq_of_beq_eq_true hb
      subst e
      obtain ⟨hst, h⟩ := mN_ok h
      subst hst
      obtain ⟨a3, n3, h⟩ := gI_ok h
      obtain ⟨a4, n4, h⟩ := gI_ok h
      refine at_leaf (ls2 := [(105, .ref 93), (0, .int x1), (0, .int x2), (0, .int a3), (0, .int a4)]) h3.1 ⟨Or.inr ⟨_, (h3.2 0 rfl).trans rfl⟩, Or.inr ⟨_, (h3.2 1 rfl).trans rfl⟩, Or.inr ⟨_, (h3.2 2 rfl).trans rfl⟩, Or.inr n3, Or.inr n4, trivial⟩ ?_
      cases h; exact qb _ _ hq
    cases h
  · intro v I2 _ h
    split at h
    · cases h; exact qr _ _ hq
    · cases h
def K_Reader_numberAt_5 (x1 : Int32) (x2 : Int32) (x3 : Int32) (x4 : Int32) : M (Int32) :=
  lp (B_Reader_numberAt_5 x1 x2) FU (x3, x4)
theorem s_Reader_numberAt_5 {d : Nat} (hcs : AllS L X d cs_Reader_numberAt) (x1 : Int32) (x2 : Int32) (x3 : Int32) (x4 : Int32) {o : Option Value × PH} {Q : (Int32) → MI → Prop} (q0 : ∀ v I, Q v I → o = (some (.int v), HH I)) (I : MI) (r : Int32) (I1 : MI) (h : K_Reader_numberAt_5 x1 x2 x3 x4 I = some (r, I1)) (hq : Q r I1) : At L X (d + 1) 74 5 [(105, .ref 93), (0, .int x1), (0, .int x2), (0, .int x3), (0, .int x4)] [] I o := by
  unfold K_Reader_numberAt_5 at h
  have w0 := fun w => at_lp (body := B_Reader_numberAt_5 x1 x2) (P := (fun (y : Int32 × Int32) I => At L X (d + 1) 74 5 [(105, .ref 93), (0, .int x1), (0, .int x2), (0, .int y.1), (0, .int y.2)] [] I o)) (Q := (fun (e : Int32) I => Q e I)) w FU (x3, x4) I r I1 h hq
  refine w0 ?_
  intro y I r I1 h hq
  exact b_Reader_numberAt_5 hcs x1 x2 (Q := SQ (fun (y : Int32 × Int32) I => At L X (d + 1) 74 5 [(105, .ref 93), (0, .int x1), (0, .int x2), (0, .int y.1), (0, .int y.2)] [] I o) (fun (e : Int32) I => Q e I)) (fun _ _ w => w) q0 y I r I1 h hq
def F_Reader_numberAt (x1 : Int32) (x2 : Int32) : M (Int32) :=
  K_Reader_numberAt_5 x1 x2 (0 : Int32) x1
set_option maxRecDepth 4000 in
theorem e_s_Reader_numberAt_0 (k_5 : Int32 → Int32 → Int32 → Int32 → M (Int32)) (x1 : Int32) (x2 : Int32) : wf (β := Int32) L X q_Reader_numberAt 1 cs_Reader_numberAt [3, 4] [5] (fun pc ls st => mC (Nat.beq pc 5) (mN st <| gI ls 3 fun a3 => gI ls 4 fun a4 => k_5 x1 x2 a3 a4) (fl)) (fun v => match v with | some (_, .int x) => rt x | _ => fl) 32 0 [(105, .ref 93), (0, .int x1), (0, .int x2), (0, dV), (0, dV)] [] = (k_5 x1 x2 (0 : Int32) x1) := rfl
theorem s_Reader_numberAt_0 {d : Nat} (hcs : AllS L X d cs_Reader_numberAt) (x1 : Int32) (x2 : Int32) {o : Option Value × PH} {Q : (Int32) → MI → Prop} (q0 : ∀ v I, Q v I → o = (some (.int v), HH I)) (I : MI) (r : Int32) (I1 : MI) (h : F_Reader_numberAt x1 x2 I = some (r, I1)) (hq : Q r I1) : At L X (d + 1) 74 0 [(105, .ref 93), (0, .int x1), (0, .int x2), (0, dV), (0, dV)] [] I o := by
  refine wf_ok z_Reader_numberAt hcs ?_ ?_ _ _ _ _ _ ⟨rfl, trivial, trivial, trivial, trivial, trivial⟩ trivial (unm_refl _ _) ((congrFun (e_s_Reader_numberAt_0 (L := L) (X := X) K_Reader_numberAt_5 x1 x2) I).trans h)
  · intro pc ls st I2 h1 h2 h3 h
    rcases mC_ok h with ⟨hb, h⟩ | ⟨_, h⟩
    · have e := Nat.eq_of_beq_eq_true hb
      subst e
      obtain ⟨hst, h⟩ := mN_ok h
      subst hst
      obtain ⟨a3, n3, h⟩ := gI_ok h
      obtain ⟨a4, n4, h⟩ := gI_ok h
      refine at_leaf (ls2 := [(105, .ref 93), (0, .int x1), (0, .int x2), (0, .int a3), (0, .int a4)]) h3.1 ⟨Or.inr ⟨_, (h3.2 0 rfl).trans rfl⟩, Or.inr ⟨_, (h3.2 1 rfl).trans rfl⟩, Or.inr ⟨_, (h3.2 2 rfl).trans rfl⟩, Or.inr n3, Or.inr n4, trivial⟩ ?_
      exact s_Reader_numberAt_5 hcs x1 x2 a3 a4 q0 _ _ _ h hq
    cases h
  · intro v I2 _ h
    split at h
    · cases h; exact q0 _ _ hq
    · cases h
theorem w_Reader_numberAt {d : Nat} (hcs : AllS L X d cs_Reader_numberAt) : Snd L X (d + 1) 74 3 (W_Reader_numberAt F_Reader_numberAt) := by
  refine ⟨_, z_Reader_numberAt, rfl, fun β args k I r hty hlen h => ?_⟩
  unfold W_Reader_numberAt at h
  split at h
  · rename_i t0 a0 u1 a1 u2 a2
    obtain ⟨hb0, h⟩ := mB_ok h
    have e0 := Nat.eq_of_beq_eq_true hb0
    have g0 : okB 105 a0 = true := e0 ▸ hty.1
    have e20 := one_105 g0
    subst e20
    obtain ⟨v, I1, h1, h2⟩ := bn_some h
    refine ⟨gf_obj (c := 5) (by decide) g0, rfl, some (0, .int v), I1, trivial, ?_, h2⟩
    exact s_Reader_numberAt_0 hcs a1 a2  (Q := fun w I => w = v ∧ I = I1) (fun w I q => by obtain ⟨rfl, rfl⟩ := q; rfl) I v I1 h1 ⟨rfl, rfl⟩
  · cases h
theorem S_Reader_numberAt {d : Nat} (hd : 1 ≤ d) : Snd L X d 74 3 (W_Reader_numberAt F_Reader_numberAt) := by
  obtain ⟨e, rfl⟩ : ∃ e, d = e + 1 := ⟨d - 1, by omega⟩
  exact w_Reader_numberAt trivial
end
