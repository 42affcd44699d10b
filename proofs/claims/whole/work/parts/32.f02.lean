/-! methods (written by wip/tools/gen_f.py) -/
section
variable {L : Nat} {X : Nat → Int32}
set_option maxRecDepth 100000 in
theorem z_Law_untold : pT[48]? = some (q_Law_untold, 3, 3, 1, 99) := rfl
def W_Law_untold (F : Nat → Int32 → Int32 → M Int32) : CSem := fun _ args k => match args with
  | [(t0, .ref a0), (_, .int a1), (_, .int a2)] => mB (Nat.beq t0 110) <| bn (F a0 a1 a2) fun v => k (some (0, .int v))
  | _ => fl
def cs_Law_untold : List (Nat × Nat × CSem) := []
def F_Law_untold (r0 : Nat) (x1 : Int32) (x2 : Int32) : M (Int32) :=
  (if x2 = 0 then
    bn (ld 18 (r0 + 7) x1) fun v3 =>
    bn (ld 10 (r0 + 1) v3) fun v4 =>
    bn (ld 18 (r0 + 4) x1) fun v5 =>
    bn (ld 6 (r0 + 2) v5) fun v6 =>
    rt (((100 : Int32) * v4) - ((50 : Int32) * v6))
  else
    (if x2 = (1 : Int32) then
      bn (ld 18 (r0 + 5) x1) fun v2 =>
      rt ((1 : Int32) + v2)
    else
      bn (ld 18 (r0 + 5) x1) fun v1 =>
      rt ((2 : Int32) * v1)))
set_option maxRecDepth 4000 in
theorem e_s_Law_untold_0 (r0 : Nat) (x1 : Int32) (x2 : Int32) : wf (β := Int32) L X q_Law_untold 1 cs_Law_untold [] [] (fun _ _ _ => fl) (fun v => match v with | some (_, .int x) => rt x | _ => fl) 44 0 [(110, .ref r0), (0, .int x1), (0, .int x2)] [] = ((if x2 = 0 then
    bn (ld 18 (r0 + 7) x1) fun v3 =>
    bn (ld 10 (r0 + 1) v3) fun v4 =>
    bn (ld 18 (r0 + 4) x1) fun v5 =>
    bn (ld 6 (r0 + 2) v5) fun v6 =>
    rt (((100 : Int32) * v4) - ((50 : Int32) * v6))
  else
    (if x2 = (1 : Int32) then
      bn (ld 18 (r0 + 5) x1) fun v2 =>
      rt ((1 : Int32) + v2)
    else
      bn (ld 18 (r0 + 5) x1) fun v1 =>
      rt ((2 : Int32) * v1)))) := rfl
theorem s_Law_untold_0 {d : Nat} (hcs : AllS L X d cs_Law_untold) (r0 : Nat) (x1 : Int32) (x2 : Int32) (t0 : okB 110 r0 = true) {o : Option Value × PH} {Q : (Int32) → MI → Prop} (q0 : ∀ v I, Q v I → o = (some (.int v), HH I)) (I : MI) (r : Int32) (I1 : MI) (h : F_Law_untold r0 x1 x2 I = some (r, I1)) (hq : Q r I1) : At L X (d + 1) 48 0 [(110, .ref r0), (0, .int x1), (0, .int x2)] [] I o := by
  refine wf_ok z_Law_untold hcs ?_ ?_ _ _ _ _ _ ⟨t0, trivial, trivial, trivial⟩ trivial (unm_refl _ _) ((congrFun (e_s_Law_untold_0 (L := L) (X := X) r0 x1 x2) I).trans h)
  · intro pc ls st I2 h1 h2 h3 h
    cases h
  · intro v I2 _ h
    split at h
    · cases h; exact q0 _ _ hq
    · cases h
theorem w_Law_untold {d : Nat} (hcs : AllS L X d cs_Law_untold) : Snd L X (d + 1) 48 3 (W_Law_untold F_Law_untold) := by
  refine ⟨_, z_Law_untold, rfl, fun β args k I r hty hlen h => ?_⟩
  unfold W_Law_untold at h
  split at h
  · rename_i t0 a0 u1 a1 u2 a2
    obtain ⟨hb0, h⟩ := mB_ok h
    have e0 := Nat.eq_of_beq_eq_true hb0
    have g0 : okB 110 a0 = true := e0 ▸ hty.1
    obtain ⟨v, I1, h1, h2⟩ := bn_some h
    refine ⟨rfl, rfl, some (0, .int v), I1, trivial, ?_, h2⟩
    exact s_Law_untold_0 hcs a0 a1 a2 g0 (Q := fun w I => w = v ∧ I = I1) (fun w I q => by obtain ⟨rfl, rfl⟩ := q; rfl) I v I1 h1 ⟨rfl, rfl⟩
  · cases h
theorem S_Law_untold {d : Nat} (hd : 1 ≤ d) : Snd L X d 48 3 (W_Law_untold F_Law_untold) := by
  obtain ⟨e, rfl⟩ : ∃ e, d = e + 1 := ⟨d - 1, by omega⟩
  exact w_Law_untold trivial
set_option maxRecDepth 100000 in
theorem z_Law_joined : pT[54]? = some (q_Law_joined, 3, 3, 1, 99) := rfl
def W_Law_joined (F : Int32 → Int32 → Int32 → M Int32) : CSem := fun _ args k => match args with
  | [(_, .int a0), (_, .int a1), (_, .int a2)] => bn (F a0 a1 a2) fun v => k (some (0, .int v))
  | _ => fl
def cs_Law_joined : List (Nat × Nat × CSem) := []
def F_Law_joined (x0 : Int32) (x1 : Int32) (x2 : Int32) : M (Int32) :=
  (if x0 = (-9 : Int32) then
    rt (x1 &&& x2)
  else (if x0 = (-8 : Int32) then
    rt (x1 ||| x2)
  else (if x0 = (-7 : Int32) then
    (if x2 < x1 then
      rt (1 : Int32)
    else
      rt (0 : Int32))
  else (if x0 = (-6 : Int32) then
    (if x1 = x2 then
      rt (1 : Int32)
    else
      rt (0 : Int32))
  else (if x0 = (-5 : Int32) then
    (if x1 < x2 then
      rt (1 : Int32)
    else
      rt (0 : Int32))
  else (if x0 = (-4 : Int32) then
    (if x2 = 0 then
      rt (0 : Int32)
    else
      dvI x2 <|
      rt (x1 / x2))
  else (if x0 = (-3 : Int32) then
    rt (x1 * x2)
  else (if x0 = (-2 : Int32) then
    rt (x1 - x2)
  else (if x0 = (-1 : Int32) then
    rt (x1 + x2)
  else rt (x1 ||| x2))))))))))
set_option maxRecDepth 4000 in
theorem e_s_Law_joined_0 (x0 : Int32) (x1 : Int32) (x2 : Int32) : wf (β := Int32) L X q_Law_joined 1 cs_Law_joined [] [] (fun _ _ _ => fl) (fun v => match v with | some (_, .int x) => rt x | _ => fl) 56 0 [(0, .int x0), (0, .int x1), (0, .int x2)] [] = ((if x0 = (-9 : Int32) then
    rt (x1 &&& x2)
  else (if x0 = (-8 : Int32) then
    rt (x1 ||| x2)
  else (if x0 = (-7 : Int32) then
    (if x2 < x1 then
      rt (1 : Int32)
    else
      rt (0 : Int32))
  else (if x0 = (-6 : Int32) then
    (if x1 = x2 then
      rt (1 : Int32)
    else
      rt (0 : Int32))
  else (if x0 = (-5 : Int32) then
    (if x1 < x2 then
      rt (1 : Int32)
    else
      rt (0 : Int32))
  else (if x0 = (-4 : Int32) then
    (if x2 = 0 then
      rt (0 : Int32)
    else
      dvI x2 <|
      rt (x1 / x2))
  else (if x0 = (-3 : Int32) then
    rt (x1 * x2)
  else (if x0 = (-2 : Int32) then
    rt (x1 - x2)
  else (if x0 = (-1 : Int32) then
    rt (x1 + x2)
  else rt (x1 ||| x2))))))))))) := rfl
theorem s_Law_joined_0 {d : Nat} (hcs : AllS L X d cs_Law_joined) (x0 : Int32) (x1 : Int32) (x2 : Int32) {o : Option Value × PH} {Q : (Int32) → MI → Prop} (q0 : ∀ v I, Q v I → o = (some (.int v), HH I)) (I : MI) (r : Int32) (I1 : MI) (h : F_Law_joined x0 x1 x2 I = some (r, I1)) (hq : Q r I1) : At L X (d + 1) 54 0 [(0, .int x0), (0, .int x1), (0, .int x2)] [] I o := by
  refine wf_ok z_Law_joined hcs ?_ ?_ _ _ _ _ _ ⟨trivial, trivial, trivial, trivial⟩ trivial (unm_refl _ _) ((congrFun (e_s_Law_joined_0 (L := L) (X := X) x0 x1 x2) I).trans h)
  · intro pc ls st I2 h1 h2 h3 h
    cases h
  · intro v I2 _ h
    split at h
    · cases h; exact q0 _ _ hq
    · cases h
theorem w_Law_joined {d : Nat} (hcs : AllS L X d cs_Law_joined) : Snd L X (d + 1) 54 3 (W_Law_joined F_Law_joined) := by
  refine ⟨_, z_Law_joined, rfl, fun β args k I r hty hlen h => ?_⟩
  unfold W_Law_joined at h
  split at h
  · rename_i u0 a0 u1 a1 u2 a2
    obtain ⟨v, I1, h1, h2⟩ := bn_some h
    refine ⟨rfl, rfl, some (0, .int v), I1, trivial, ?_, h2⟩
    exact s_Law_joined_0 hcs a0 a1 a2  (Q := fun w I => w = v ∧ I = I1) (fun w I q => by obtain ⟨rfl, rfl⟩ := q; rfl) I v I1 h1 ⟨rfl, rfl⟩
  · cases h
theorem S_Law_joined {d : Nat} (hd : 1 ≤ d) : Snd L X d 54 3 (W_Law_joined F_Law_joined) := by
  obtain ⟨e, rfl⟩ : ∃ e, d = e + 1 := ⟨d - 1, by omega⟩
  exact w_Law_joined trivial
set_option maxRecDepth 100000 in
theorem z_Integer_bitCount : pT[53]? = some (q_Integer_bitCount, 1, 1, 1, 99) := rfl
def W_Integer_bitCount (F : Int32 → M Int32) : CSem := fun _ args k => match args with
  | [(_, .int a0)] => bn (F a0) fun v => k (some (0, .int v))
  | _ => fl
def cs_Integer_bitCount : List (Nat × Nat × CSem) := []
def F_Integer_bitCount (x0 : Int32) : M (Int32) :=
  rt ((((((((x0 - ((ush x0 (1 : Int32)) &&& (1431655765 : Int32))) &&& (858993459 : Int32)) + ((ush (x0 - ((ush x0 (1 : Int32)) &&& (1431655765 : Int32))) (2 : Int32)) &&& (858993459 : Int32))) + (ush (((x0 - ((ush x0 (1 : Int32)) &&& (1431655765 : Int32))) &&& (858993459 : Int32)) + ((ush (x0 - ((ush x0 (1 : Int32)) &&& (1431655765 : Int32))) (2 : Int32)) &&& (858993459 : Int32))) (4 : Int32))) &&& (252645135 : Int32)) + (ush (((((x0 - ((ush x0 (1 : Int32)) &&& (1431655765 : Int32))) &&& (858993459 : Int32)) + ((ush (x0 - ((ush x0 (1 : Int32)) &&& (1431655765 : Int32))) (2 : Int32)) &&& (858993459 : Int32))) + (ush (((x0 - ((ush x0 (1 : Int32)) &&& (1431655765 : Int32))) &&& (858993459 : Int32)) + ((ush (x0 - ((ush x0 (1 : Int32)) &&& (1431655765 : Int32))) (2 : Int32)) &&& (858993459 : Int32))) (4 : Int32))) &&& (252645135 : Int32)) (8 : Int32))) + (ush ((((((x0 - ((ush x0 (1 : Int32)) &&& (1431655765 : Int32))) &&& (858993459 : Int32)) + ((ush (x0 - ((ush x0 (1 : Int32)) &&& (1431655765 : Int32))) (2 : Int32)) &&& (858993459 : Int32))) + (ush (((x0 - ((ush x0 (1 : Int32)) &&& (1431655765 : Int32))) &&& (858993459 : Int32)) + ((ush (x0 - ((ush x0 (1 : Int32)) &&& (1431655765 : Int32))) (2 : Int32)) &&& (858993459 : Int32))) (4 : Int32))) &&& (252645135 : Int32)) + (ush (((((x0 - ((ush x0 (1 : Int32)) &&& (1431655765 : Int32))) &&& (858993459 : Int32)) + ((ush (x0 - ((ush x0 (1 : Int32)) &&& (1431655765 : Int32))) (2 : Int32)) &&& (858993459 : Int32))) + (ush (((x0 - ((ush x0 (1 : Int32)) &&& (1431655765 : Int32))) &&& (858993459 : Int32)) + ((ush (x0 - ((ush x0 (1 : Int32)) &&& (1431655765 : Int32))) (2 : Int32)) &&& (858993459 : Int32))) (4 : Int32))) &&& (252645135 : Int32)) (8 : Int32))) (16 : Int32))) &&& (63 : Int32))
set_option maxRecDepth 4000 in
theorem e_s_Integer_bitCount_0 (x0 : Int32) : wf (β := Int32) L X q_Integer_bitCount 1 cs_Integer_bitCount [0] [] (fun _ _ _ => fl) (fun v => match v with | some (_, .int x) => rt x | _ => fl) 47 0 [(0, .int x0)] [] = (rt ((((((((x0 - ((ush x0 (1 : Int32)) &&& (1431655765 : Int32))) &&& (858993459 : Int32)) + ((ush (x0 - ((ush x0 (1 : Int32)) &&& (1431655765 : Int32))) (2 : Int32)) &&& (858993459 : Int32))) + (ush (((x0 - ((ush x0 (1 : Int32)) &&& (1431655765 : Int32))) &&& (858993459 : Int32)) + ((ush (x0 - ((ush x0 (1 : Int32)) &&& (1431655765 : Int32))) (2 : Int32)) &&& (858993459 : Int32))) (4 : Int32))) &&& (252645135 : Int32)) + (ush (((((x0 - ((ush x0 (1 : Int32)) &&& (1431655765 : Int32))) &&& (858993459 : Int32)) + ((ush (x0 - ((ush x0 (1 : Int32)) &&& (1431655765 : Int32))) (2 : Int32)) &&& (858993459 : Int32))) + (ush (((x0 - ((ush x0 (1 : Int32)) &&& (1431655765 : Int32))) &&& (858993459 : Int32)) + ((ush (x0 - ((ush x0 (1 : Int32)) &&& (1431655765 : Int32))) (2 : Int32)) &&& (858993459 : Int32))) (4 : Int32))) &&& (252645135 : Int32)) (8 : Int32))) + (ush ((((((x0 - ((ush x0 (1 : Int32)) &&& (1431655765 : Int32))) &&& (858993459 : Int32)) + ((ush (x0 - ((ush x0 (1 : Int32)) &&& (1431655765 : Int32))) (2 : Int32)) &&& (858993459 : Int32))) + (ush (((x0 - ((ush x0 (1 : Int32)) &&& (1431655765 : Int32))) &&& (858993459 : Int32)) + ((ush (x0 - ((ush x0 (1 : Int32)) &&& (1431655765 : Int32))) (2 : Int32)) &&& (858993459 : Int32))) (4 : Int32))) &&& (252645135 : Int32)) + (ush (((((x0 - ((ush x0 (1 : Int32)) &&& (1431655765 : Int32))) &&& (858993459 : Int32)) + ((ush (x0 - ((ush x0 (1 : Int32)) &&& (1431655765 : Int32))) (2 : Int32)) &&& (858993459 : Int32))) + (ush (((x0 - ((ush x0 (1 : Int32)) &&& (1431655765 : Int32))) &&& (858993459 : Int32)) + ((ush (x0 - ((ush x0 (1 : Int32)) &&& (1431655765 : Int32))) (2 : Int32)) &&& (858993459 : Int32))) (4 : Int32))) &&& (252645135 : Int32)) (8 : Int32))) (16 : Int32))) &&& (63 : Int32))) := rfl
theorem s_Integer_bitCount_0 {d : Nat} (hcs : AllS L X d cs_Integer_bitCount) (x0 : Int32) {o : Option Value × PH} {Q : (Int32) → MI → Prop} (q0 : ∀ v I, Q v I → o = (some (.int v), HH I)) (I : MI) (r : Int32) (I1 : MI) (h : F_Integer_bitCount x0 I = some (r, I1)) (hq : Q r I1) : At L X (d + 1) 53 0 [(0, .int x0)] [] I o := by
  refine wf_ok z_Integer_bitCount hcs ?_ ?_ _ _ _ _ _ ⟨trivial, trivial⟩ trivial (unm_refl _ _) ((congrFun (e_s_Integer_bitCount_0 (L := L) (X := X) x0) I).trans h)
  · intro pc ls st I2 h1 h2 h3 h
    cases h
  · intro v I2 _ h
    split at h
    · cases h; exact q0 _ _ hq
    · cases h
theorem w_Integer_bitCount {d : Nat} (hcs : AllS L X d cs_Integer_bitCount) : Snd L X (d + 1) 53 1 (W_Integer_bitCount F_Integer_bitCount) := by
  refine ⟨_, z_Integer_bitCount, rfl, fun β args k I r hty hlen h => ?_⟩
  unfold W_Integer_bitCount at h
  split at h
  · rename_i u0 a0
    obtain ⟨v, I1, h1, h2⟩ := bn_some h
    refine ⟨rfl, rfl, some (0, .int v), I1, trivial, ?_, h2⟩
    exact s_Integer_bitCount_0 hcs a0  (Q := fun w I => w = v ∧ I = I1) (fun w I q => by obtain ⟨rfl, rfl⟩ := q; rfl) I v I1 h1 ⟨rfl, rfl⟩
  · cases h
theorem S_Integer_bitCount {d : Nat} (hd : 1 ≤ d) : Snd L X d 53 1 (W_Integer_bitCount F_Integer_bitCount) := by
  obtain ⟨e, rfl⟩ : ∃ e, d = e + 1 := ⟨d - 1, by omega⟩
  exact w_Integer_bitCount trivial
set_option maxRecDepth 100000 in
theorem z_World_outIn : pT[52]? = some (q_World_outIn, 2, 4, 1, 10) := rfl
def W_World_outIn (F : Nat → Int32 → M Int32) : CSem := fun _ args k => match args with
  | [(t0, .ref a0), (_, .int a1)] => mB (Nat.beq t0 110) <| bn (F a0 a1) fun v => k (some (0, .int v))
  | _ => fl
def cs_World_outIn : List (Nat × Nat × CSem) := []
def B_World_outIn_4 (r0 : Nat) (x1 : Int32) (y : Int32 × Int32) : M ((Int32 × Int32) ⊕ (Int32)) :=
  bn (rd r0 8) fun v1 =>
  (if y.2 < v1 then
    bn (ld 18 (r0 + 8) y.2) fun v2 =>
    (if v2 = 0 then
      rt (.inl (y.1, (y.2 + (1 : Int32))))
    else
      bn (ld 18 (r0 + 7) y.2) fun v3 =>
      (if v3 = x1 then
        rt (.inl ((y.1 ||| ((1 : Int32) <<< (y.2 &&& 31))), (y.2 + (1 : Int32))))
      else
        rt (.inl (y.1, (y.2 + (1 : Int32))))))
  else
    rt (.inr y.1))
set_option maxRecDepth 4000 in
theorem e_b_World_outIn_4 (r0 : Nat) (x1 : Int32) (y : Int32 × Int32) : wf (β := (Int32 × Int32) ⊕ (Int32)) L X q_World_outIn 1 cs_World_outIn [2, 3] [4] (fun pc ls st => mC (Nat.beq pc 4) (mN st <| gI ls 2 fun a2 => gI ls 3 fun a3 => rt (.inl (a2, a3))) (fl)) (fun v => match v with | some (_, .int x) => rt (.inr x) | _ => fl) 34 4 [(110, .ref r0), (0, .int x1), (0, .int y.1), (0, .int y.2)] [] = (bn (rd r0 8) fun v1 =>
  (if y.2 < v1 then
    bn (ld 18 (r0 + 8) y.2) fun v2 =>
    (if v2 = 0 then
      rt (.inl (y.1, (y.2 + (1 : Int32))))
    else
      bn (ld 18 (r0 + 7) y.2) fun v3 =>
      (if v3 = x1 then
        rt (.inl ((y.1 ||| ((1 : Int32) <<< (y.2 &&& 31))), (y.2 + (1 : Int32))))
      else
        rt (.inl (y.1, (y.2 + (1 : Int32))))))
  else
    rt (.inr y.1))) := rfl
theorem b_World_outIn_4 {d : Nat} (hcs : AllS L X d cs_World_outIn) (r0 : Nat) (x1 : Int32) (t0 : okB 110 r0 = true) {o : Option Value × PH} {Q : ((Int32 × Int32) ⊕ (Int32)) → MI → Prop} (qb : ∀ y I, Q (.inl y) I → At L X (d + 1) 52 4 [(110, .ref r0), (0, .int x1), (0, .int y.1), (0, .int y.2)] [] I o) (qr : ∀ v I, Q (.inr v) I → o = (some (.int v), HH I)) (y : Int32 × Int32) (I : MI) (r : (Int32 × Int32) ⊕ (Int32)) (I1 : MI) (h : B_World_outIn_4 r0 x1 y I = some (r, I1)) (hq : Q r I1) : At L X (d + 1) 52 4 [(110, .ref r0), (0, .int x1), (0, .int y.1), (0, .int y.2)] [] I o := by
  refine wf_ok z_World_outIn hcs ?_ ?_ _ _ _ _ _ ⟨t0, trivial, trivial, trivial, trivial⟩ trivial (unm_refl _ _) ((congrFun (e_b_World_outIn_4 (L := L) (X := X) r0 x1 y) I).trans h)
  · intro pc ls st I2 h1 h2 h3 h
    rcases mC_ok h with ⟨hb, h⟩ | ⟨_, h⟩
    · have e := Nat.eq_of_beq_eq_true hb
      subst e
      obtain ⟨hst, h⟩ := mN_ok h
      subst hst
      obtain ⟨a2, n2, h⟩ := gI_ok h
      obtain ⟨a3, n3, h⟩ := gI_ok h
      refine at_leaf (ls2 := [(110, .ref r0), (0, .int x1), (0, .int a2), (0, .int a3)]) h3.1 ⟨Or.inr ⟨_, (h3.2 0 rfl).trans rfl⟩, Or.inr ⟨_, (h3.2 1 rfl).trans rfl⟩, Or.inr n2, Or.inr n3, trivial⟩ ?_
      cases h; exact qb _ _ hq
    cases h
  · intro v I2 _ h
    split at h
    · cases h; exact qr _ _ hq
    · cases h
def K_World_outIn_4 (r0 : Nat) (x1 : Int32) (x2 : Int32) (x3 : Int32) : M (Int32) :=
  lp (B_World_outIn_4 r0 x1) FU (x2, x3)
theorem s_World_outIn_4 {d : Nat} (hcs : AllS L X d cs_World_outIn) (r0 : Nat) (x1 : Int32) (x2 : Int32) (x3 : Int32) (t0 : okB 110 r0 = true) {o : Option Value × PH} {Q : (Int32) → MI → Prop} (q0 : ∀ v I, Q v I → o = (some (.int v), HH I)) (I : MI) (r : Int32) (I1 : MI) (h : K_World_outIn_4 r0 x1 x2 x3 I = some (r, I1)) (hq : Q r I1) : At L X (d + 1) 52 4 [(110, .ref r0), (0, .int x1), (0, .int x2), (0, .int x3)] [] I o := by
  unfold K_World_outIn_4 at h
  have w0 := fun w => at_lp (body := B_World_outIn_4 r0 x1) (P := (fun (y : Int32 × Int32) I => At L X (d + 1) 52 4 [(110, .ref r0), (0, .int x1), (0, .int y.1), (0, .int y.2)] [] I o)) (Q := (fun (e : Int32) I => Q e I)) w FU (x2, x3) I r I1 h hq
  refine w0 ?_
  intro y I r I1 h hq
  exact b_World_outIn_4 hcs r0 x1 t0 (Q := SQ (fun (y : Int32 × Int32) I => At L X (d + 1) 52 4 [(110, .ref r0), (0, .int x1), (0, .int y.1), (0, .int y.2)] [] I o) (fun (e : Int32) I => Q e I)) (fun _ _ w => w) q0 y I r I1 h hq
def F_World_outIn (r0 : Nat) (x1 : Int32) : M (Int32) :=
  K_World_outIn_4 r0 x1 (0 : Int32) (0 : Int32)
set_option maxRecDepth 4000 in
theorem e_s_World_outIn_0 (k_4 : Nat → Int32 → Int32 → Int32 → M (Int32)) (r0 : Nat) (x1 : Int32) : wf (β := Int32) L X q_World_outIn 1 cs_World_outIn [2, 3] [4] (fun pc ls st => mC (Nat.beq pc 4) (mN st <| gI ls 2 fun a2 => gI ls 3 fun a3 => k_4 r0 x1 a2 a3) (fl)) (fun v => match v with | some (_, .int x) => rt x | _ => fl) 34 0 [(110, .ref r0), (0, .int x1), (0, dV), (0, dV)] [] = (k_4 r0 x1 (0 : Int32) (0 : Int32)) := rfl
theorem s_World_outIn_0 {d : Nat} (hcs : AllS L X d cs_World_outIn) (r0 : Nat) (x1 : Int32) (t0 : okB 110 r0 = true) {o : Option Value × PH} {Q : (Int32) → MI → Prop} (q0 : ∀ v I, Q v I → o = (some (.int v), HH I)) (I : MI) (r : Int32) (I1 : MI) (h : F_World_outIn r0 x1 I = some (r, I1)) (hq : Q r I1) : At L X (d + 1) 52 0 [(110, .ref r0), (0, .int x1), (0, dV), (0, dV)] [] I o := by
  refine wf_ok z_World_outIn hcs ?_ ?_ _ _ _ _ _ ⟨t0, trivial, trivial, trivial, trivial⟩ trivial (unm_refl _ _) ((congrFun (e_s_World_outIn_0 (L := L) (X := X) K_World_outIn_4 r0 x1) I).trans h)
  · intro pc ls st I2 h1 h2 h3 h
    rcases mC_ok h with ⟨hb, h⟩ | ⟨_, h⟩
    · have e := Nat.eq_of_beq_eq_true hb
      subst e
      obtain ⟨hst, h⟩ := mN_ok h
      subst hst
      obtain ⟨a2, n2, h⟩ := gI_ok h
      obtain ⟨a3, n3, h⟩ := gI_ok h
      refine at_leaf (ls2 := [(110, .ref r0), (0, .int x1), (0, .int a2), (0, .int a3)]) h3.1 ⟨Or.inr ⟨_, (h3.2 0 rfl).trans rfl⟩, Or.inr ⟨_, (h3.2 1 rfl).trans rfl⟩, Or.inr n2, Or.inr n3, trivial⟩ ?_
      exact s_World_outIn_4 hcs r0 x1 a2 a3 t0 q0 _ _ _ h hq
    cases h
  · intro v I2 _ h
    split at h
    · cases h; exact q0 _ _ hq
    · cases h
theorem w_World_outIn {d : Nat} (hcs : AllS L X d cs_World_outIn) : Snd L X (d + 1) 52 2 (W_World_outIn F_World_outIn) := by
  refine ⟨_, z_World_outIn, rfl, fun β args k I r hty hlen h => ?_⟩
  unfold W_World_outIn at h
  split at h
  · rename_i t0 a0 u1 a1
    obtain ⟨hb0, h⟩ := mB_ok h
    have e0 := Nat.eq_of_beq_eq_true hb0
    have g0 : okB 110 a0 = true := e0 ▸ hty.1
    obtain ⟨v, I1, h1, h2⟩ := bn_some h
    refine ⟨gf_obj (c := 10) (by decide) g0, rfl, some (0, .int v), I1, trivial, ?_, h2⟩
    exact s_World_outIn_0 hcs a0 a1 g0 (Q := fun w I => w = v ∧ I = I1) (fun w I q => by obtain ⟨rfl, rfl⟩ := q; rfl) I v I1 h1 ⟨rfl, rfl⟩
  · cases h
theorem S_World_outIn {d : Nat} (hd : 1 ≤ d) : Snd L X d 52 2 (W_World_outIn F_World_outIn) := by
  obtain ⟨e, rfl⟩ : ∃ e, d = e + 1 := ⟨d - 1, by omega⟩
  exact w_World_outIn trivial
set_option maxRecDepth 100000 in
theorem z_World_othersBeside : pT[51]? = some (q_World_othersBeside, 2, 2, 1, 10) := rfl
def W_World_othersBeside (F : Nat → Int32 → M Int32) : CSem := fun _ args k => match args with
  | [(t0, .ref a0), (_, .int a1)] => mB (Nat.beq t0 110) <| bn (F a0 a1) fun v => k (some (0, .int v))
  | _ => fl
def cs_World_othersBeside (f_Integer_bitCount : Int32 → M Int32) (f_World_outIn : Nat → Int32 → M Int32) : List (Nat × Nat × CSem) := [(53, 1, W_Integer_bitCount f_Integer_bitCount), (52, 2, W_World_outIn f_World_outIn)]
def F_World_othersBeside (r0 : Nat) (x1 : Int32) : M (Int32) :=
  bn (ld 18 (r0 + 7) x1) fun v1 =>
  bn (F_World_outIn r0 v1) fun v2 =>
  bn (F_Integer_bitCount (v2 &&& (((1 : Int32) <<< (x1 &&& 31)) ^^^ (-1 : Int32)))) fun v3 =>
  rt v3
set_option maxRecDepth 4000 in
theorem e_s_World_othersBeside_0 (f_Integer_bitCount : Int32 → M Int32) (f_World_outIn : Nat → Int32 → M Int32) (r0 : Nat) (x1 : Int32) : wf (β := Int32) L X q_World_othersBeside 1 (cs_World_othersBeside f_Integer_bitCount f_World_outIn) [] [] (fun _ _ _ => fl) (fun v => match v with | some (_, .int x) => rt x | _ => fl) 19 0 [(110, .ref r0), (0, .int x1)] [] = (bn (ld 18 (r0 + 7) x1) fun v1 =>
  bn (f_World_outIn r0 v1) fun v2 =>
  bn (f_Integer_bitCount (v2 &&& (((1 : Int32) <<< (x1 &&& 31)) ^^^ (-1 : Int32)))) fun v3 =>
  rt v3) := rfl
theorem s_World_othersBeside_0 {d : Nat} (hcs : AllS L X d (cs_World_othersBeside F_Integer_bitCount F_World_outIn)) (r0 : Nat) (x1 : Int32) (t0 : okB 110 r0 = true) {o : Option Value × PH} {Q : (Int32) → MI → Prop} (q0 : ∀ v I, Q v I → o = (some (.int v), HH I)) (I : MI) (r : Int32) (I1 : MI) (h : F_World_othersBeside r0 x1 I = some (r, I1)) (hq : Q r I1) : At L X (d + 1) 51 0 [(110, .ref r0), (0, .int x1)] [] I o := by
  refine wf_ok z_World_othersBeside hcs ?_ ?_ _ _ _ _ _ ⟨t0, trivial, trivial⟩ trivial (unm_refl _ _) ((congrFun (e_s_World_othersBeside_0 (L := L) (X := X) F_Integer_bitCount F_World_outIn r0 x1) I).trans h)
  · intro pc ls st I2 h1 h2 h3 h
    cases h
  · intro v I2 _ h
    split at h
    · cases h; exact q0 _ _ hq
    · cases h
theorem w_World_othersBeside {d : Nat} (hcs : AllS L X d (cs_World_othersBeside F_Integer_bitCount F_World_outIn)) : Snd L X (d + 1) 51 2 (W_World_othersBeside F_World_othersBeside) := by
  refine ⟨_, z_World_othersBeside, rfl, fun β args k I r hty hlen h => ?_⟩
  unfold W_World_othersBeside at h
  split at h
  · rename_i t0 a0 u1 a1
    obtain ⟨hb0, h⟩ := mB_ok h
    have e0 := Nat.eq_of_beq_eq_true hb0
    have g0 : okB 110 a0 = true := e0 ▸ hty.1
    obtain ⟨v, I1, h1, h2⟩ := bn_some h
    refine ⟨gf_obj (c := 10) (by decide) g0, rfl, some (0, .int v), I1, trivial, ?_, h2⟩
    exact s_World_othersBeside_0 hcs a0 a1 g0 (Q := fun w I => w = v ∧ I = I1) (fun w I q => by obtain ⟨rfl, rfl⟩ := q; rfl) I v I1 h1 ⟨rfl, rfl⟩
  · cases h
theorem S_World_othersBeside {d : Nat} (hd : 2 ≤ d) : Snd L X d 51 2 (W_World_othersBeside F_World_othersBeside) := by
  obtain ⟨e, rfl⟩ : ∃ e, d = e + 1 := ⟨d - 1, by omega⟩
  exact w_World_othersBeside ⟨S_Integer_bitCount (by omega), S_World_outIn (by omega), trivial⟩
set_option maxRecDepth 100000 in
theorem z_Law_wordWorth : pT[50]? = some (q_Law_wordWorth, 3, 3, 1, 99) := rfl
def W_Law_wordWorth (F : Nat → Int32 → Int32 → M Int32) : CSem := fun _ args k => match args with
  | [(t0, .ref a0), (_, .int a1), (_, .int a2)] => mB (Nat.beq t0 110) <| bn (F a0 a1 a2) fun v => k (some (0, .int v))
  | _ => fl
def cs_Law_wordWorth (f_World_othersBeside : Nat → Int32 → M Int32) : List (Nat × Nat × CSem) := [(51, 2, W_World_othersBeside f_World_othersBeside)]
def F_Law_wordWorth (r0 : Nat) (x1 : Int32) (x2 : Int32) : M (Int32) :=
  (if x2 = (7 : Int32) then
    bn (ld 18 (r0 + 5) x1) fun v1 =>
    rt v1
  else (if x2 = (8 : Int32) then
    bn (ld 18 (r0 + 4) x1) fun v2 =>
    bn (ld 6 (r0 + 2) v2) fun v3 =>
    rt v3
  else (if x2 = (9 : Int32) then
    bn (ld 18 (r0 + 7) x1) fun v4 =>
    bn (ld 10 (r0 + 1) v4) fun v5 =>
    rt v5
  else (if x2 = (10 : Int32) then
    bn (ld 18 (r0 + 9) x1) fun v6 =>
    rt v6
  else (if x2 = (11 : Int32) then
    bn (ld 18 (r0 + 4) x1) fun v7 =>
    bn (ld 6 (r0 + 3) v7) fun v8 =>
    rt v8
  else (if x2 = (12 : Int32) then
    bn (rd r0 4) fun v9 =>
    rt v9
  else (if x2 = (13 : Int32) then
    bn (ld 18 (r0 + 7) x1) fun v10 =>
    rt v10
  else (if x2 = (14 : Int32) then
    bn (F_World_othersBeside r0 x1) fun v11 =>
    rt v11
  else bn (rd r0 5) fun v12 =>
    rt v12))))))))
set_option maxRecDepth 4000 in
theorem e_s_Law_wordWorth_0 (f_World_othersBeside : Nat → Int32 → M Int32) (r0 : Nat) (x1 : Int32) (x2 : Int32) : wf (β := Int32) L X q_Law_wordWorth 1 (cs_Law_wordWorth f_World_othersBeside) [] [] (fun _ _ _ => fl) (fun v => match v with | some (_, .int x) => rt x | _ => fl) 56 0 [(110, .ref r0), (0, .int x1), (0, .int x2)] [] = ((if x2 = (7 : Int32) then
    bn (ld 18 (r0 + 5) x1) fun v1 =>
    rt v1
  else (if x2 = (8 : Int32) then
    bn (ld 18 (r0 + 4) x1) fun v2 =>
    bn (ld 6 (r0 + 2) v2) fun v3 =>
    rt v3
  else (if x2 = (9 : Int32) then
    bn (ld 18 (r0 + 7) x1) fun v4 =>
    bn (ld 10 (r0 + 1) v4) fun v5 =>
    rt v5
  else (if x2 = (10 : Int32) then
    bn (ld 18 (r0 + 9) x1) fun v6 =>
    rt v6
  else (if x2 = (11 : Int32) then
    bn (ld 18 (r0 + 4) x1) fun v7 =>
    bn (ld 6 (r0 + 3) v7) fun v8 =>
    rt v8
  else (if x2 = (12 : Int32) then
    bn (rd r0 4) fun v9 =>
    rt v9
  else (if x2 = (13 : Int32) then
    bn (ld 18 (r0 + 7) x1) fun v10 =>
    rt v10
  else (if x2 = (14 : Int32) then
    bn (f_World_othersBeside r0 x1) fun v11 =>
    rt v11
  else bn (rd r0 5) fun v12 =>
    rt v12))))))))) := rfl
theorem s_Law_wordWorth_0 {d : Nat} (hcs : AllS L X d (cs_Law_wordWorth F_World_othersBeside)) (r0 : Nat) (x1 : Int32) (x2 : Int32) (t0 : okB 110 r0 = true) {o : Option Value × PH} {Q : (Int32) → MI → Prop} (q0 : ∀ v I, Q v I → o = (some (.int v), HH I)) (I : MI) (r : Int32) (I1 : MI) (h : F_Law_wordWorth r0 x1 x2 I = some (r, I1)) (hq : Q r I1) : At L X (d + 1) 50 0 [(110, .ref r0), (0, .int x1), (0, .int x2)] [] I o := by
  refine wf_ok z_Law_wordWorth hcs ?_ ?_ _ _ _ _ _ ⟨t0, trivial, trivial, trivial⟩ trivial (unm_refl _ _) ((congrFun (e_s_Law_wordWorth_0 (L := L) (X := X) F_World_othersBeside r0 x1 x2) I).trans h)
  · intro pc ls st I2 h1 h2 h3 h
    cases h
  · intro v I2 _ h
    split at h
    · cases h; exact q0 _ _ hq
    · cases h
theorem w_Law_wordWorth {d : Nat} (hcs : AllS L X d (cs_Law_wordWorth F_World_othersBeside)) : Snd L X (d + 1) 50 3 (W_Law_wordWorth F_Law_wordWorth) := by
  refine ⟨_, z_Law_wordWorth, rfl, fun β args k I r hty hlen h => ?_⟩
  unfold W_Law_wordWorth at h
  split at h
  · rename_i t0 a0 u1 a1 u2 a2
    obtain ⟨hb0, h⟩ := mB_ok h
    have e0 := Nat.eq_of_beq_eq_true hb0
    have g0 : okB 110 a0 = true := e0 ▸ hty.1
    obtain ⟨v, I1, h1, h2⟩ := bn_some h
    refine ⟨rfl, rfl, some (0, .int v), I1, trivial, ?_, h2⟩
    exact s_Law_wordWorth_0 hcs a0 a1 a2 g0 (Q := fun w I => w = v ∧ I = I1) (fun w I q => by obtain ⟨rfl, rfl⟩ := q; rfl) I v I1 h1 ⟨rfl, rfl⟩
  · cases h
theorem S_Law_wordWorth {d : Nat} (hd : 3 ≤ d) : Snd L X d 50 3 (W_Law_wordWorth F_Law_wordWorth) := by
  obtain ⟨e, rfl⟩ : ∃ e, d = e + 1 := ⟨d - 1, by omega⟩
  exact w_Law_wordWorth ⟨S_World_othersBeside (by omega), trivial⟩
set_option maxRecDepth 100000 in
theorem z_Law_worth : pT[49]? = some (q_Law_worth, 5, 8, 1, 2) := rfl
def W_Law_worth (F : Nat → Nat → Int32 → Int32 → Int32 → M Int32) : CSem := fun _ args k => match args with
  | [(t0, .ref a0), (t1, .ref a1), (_, .int a2), (_, .int a3), (_, .int a4)] => mB (Nat.beq t0 102) <| mB (Nat.beq t1 110) <| bn (F a0 a1 a2 a3 a4) fun v => k (some (0, .int v))
  | _ => fl
def cs_Law_worth (f_Law_joined : Int32 → Int32 → Int32 → M Int32) (f_Law_wordWorth : Nat → Int32 → Int32 → M Int32) : List (Nat × Nat × CSem) := [(54, 3, W_Law_joined f_Law_joined), (50, 3, W_Law_wordWorth f_Law_wordWorth)]
def K_Law_worth_49 (r0 : Nat) (r1 : Nat) (x2 : Int32) (x4 : Int32) (x5 : Int32) (x6 : Int32) (x7 : Int32) : M ((Int32 × Int32) ⊕ ((Int32) ⊕ Int32)) :=
  (if x5 < (40 : Int32) then
    (if x7 < 0 then
      bn (F_Law_wordWorth r1 x2 ((-20 : Int32) - x7)) fun v1 =>
      bn (sr 40 (r0 + 4) x5 v1) fun _ =>
      rt (.inl ((x5 + (1 : Int32)), (x6 + (1 : Int32))))
    else
      bn (sr 40 (r0 + 4) x5 x7) fun _ =>
      rt (.inl ((x5 + (1 : Int32)), (x6 + (1 : Int32)))))
  else
    rt (.inr (.inr (0 : Int32))))
set_option maxRecDepth 4000 in
theorem e_s_Law_worth_49 (f_Law_joined : Int32 → Int32 → Int32 → M Int32) (f_Law_wordWorth : Nat → Int32 → Int32 → M Int32) (r0 : Nat) (r1 : Nat) (x2 : Int32) (x4 : Int32) (x5 : Int32) (x6 : Int32) (x7 : Int32) : wf (β := (Int32 × Int32) ⊕ ((Int32) ⊕ Int32)) L X q_Law_worth 1 (cs_Law_worth f_Law_joined f_Law_wordWorth) [5, 6] [6, 49, 176] (fun pc ls st => mC (Nat.beq pc 6) (mN st <| gD ls 3 <| gI ls 5 fun a5 => gI ls 6 fun a6 => gD ls 7 <| rt (.inl (a5, a6))) (fl)) (fun v => match v with | some (_, .int x) => rt (.inr (.inr x)) | _ => fl) 110 49 [(102, .ref r0), (110, .ref r1), (0, .int x2), (0, dV), (0, .int x4), (0, .int x5), (0, .int x6), (0, .int x7)] [] = ((if x5 < (40 : Int32) then
    (if x7 < 0 then
      bn (f_Law_wordWorth r1 x2 ((-20 : Int32) - x7)) fun v1 =>
      bn (sr 40 (r0 + 4) x5 v1) fun _ =>
      rt (.inl ((x5 + (1 : Int32)), (x6 + (1 : Int32))))
    else
      bn (sr 40 (r0 + 4) x5 x7) fun _ =>
      rt (.inl ((x5 + (1 : Int32)), (x6 + (1 : Int32)))))
  else
    rt (.inr (.inr (0 : Int32))))) := rfl
theorem s_Law_worth_49 {d : Nat} (hcs : AllS L X d (cs_Law_worth F_Law_joined F_Law_wordWorth)) (r0 : Nat) (r1 : Nat) (x2 : Int32) (x4 : Int32) (x5 : Int32) (x6 : Int32) (x7 : Int32) (t0 : okB 102 r0 = true) (t1 : okB 110 r1 = true) {o : Option Value × PH} {Q : ((Int32 × Int32) ⊕ ((Int32) ⊕ Int32)) → MI → Prop} (qb : ∀ y I, Q (.inl y) I → At L X (d + 1) 49 6 [(102, .ref r0), (110, .ref r1), (0, .int x2), (0, dV), (0, .int x4), (0, .int y.1), (0, .int y.2), (0, dV)] [] I o) (qe176 : ∀ y I, Q (.inr (.inl y)) I → At L X (d + 1) 49 176 [(102, .ref r0), (0, dV), (0, dV), (0, dV), (0, dV), (0, .int y), (0, dV), (0, dV)] [] I o) (qr : ∀ v I, Q (.inr (.inr v)) I → o = (some (.int v), HH I)) (I : MI) (r : (Int32 × Int32) ⊕ ((Int32) ⊕ Int32)) (I1 : MI) (h : K_Law_worth_49 r0 r1 x2 x4 x5 x6 x7 I = some (r, I1)) (hq : Q r I1) : At L X (d + 1) 49 49 [(102, .ref r0), (110, .ref r1), (0, .int x2), (0, dV), (0, .int x4), (0, .int x5), (0, .int x6), (0, .int x7)] [] I o := by
  refine wf_ok z_Law_worth hcs ?_ ?_ _ _ _ _ _ ⟨t0, t1, trivial, trivial, trivial, trivial, trivial, trivial, trivial⟩ trivial (unm_refl _ _) ((congrFun (e_s_Law_worth_49 (L := L) (X := X) F_Law_joined F_Law_wordWorth r0 r1 x2 x4 x5 x6 x7) I).trans h)
  · intro pc ls st I2 h1 h2 h3 h
    rcases mC_ok h with ⟨hb, h⟩ | ⟨_, h⟩
    · have e := Nat.eq_of_beq_eq_true hb
      subst e
      obtain ⟨hst, h⟩ := mN_ok h
      subst hst
      obtain ⟨n3, h⟩ := gD_ok h
      obtain ⟨a5, n5, h⟩ := gI_ok h
      obtain ⟨a6, n6, h⟩ := gI_ok h
      obtain ⟨n7, h⟩ := gD_ok h
      refine at_leaf (ls2 := [(102, .ref r0), (110, .ref r1), (0, .int x2), (0, dV), (0, .int x4), (0, .int a5), (0, .int a6), (0, dV)]) h3.1 ⟨Or.inr ⟨_, (h3.2 0 rfl).trans rfl⟩, Or.inr ⟨_, (h3.2 1 rfl).trans rfl⟩, Or.inr ⟨_, (h3.2 2 rfl).trans rfl⟩, Or.inl ⟨rfl, n3⟩, Or.inr ⟨_, (h3.2 4 rfl).trans rfl⟩, Or.inr n5, Or.inr n6, Or.inl ⟨rfl, n7⟩, trivial⟩ ?_
      cases h; exact qb _ _ hq
    cases h
  · intro v I2 _ h
    split at h
    · cases h; exact qr _ _ hq
    · cases h
def B_Law_worth_6 (r0 : Nat) (r1 : Nat) (x2 : Int32) (x4 : Int32) (y : Int32 × Int32) : M ((Int32 × Int32) ⊕ ((Int32) ⊕ Int32)) :=
  (if y.2 < 0 then
    rt (.inr (.inl y.1))
  else
    (if y.2 < x4 then
      (if y.2 < (Int32.ofNat 400) then
        bn (ld 400 (r0 + 3) y.2) fun v1 =>
        (if v1 < 0 then
          (if (-20 : Int32) < v1 then
            (if v1 = (-8 : Int32) then
              (if y.1 < (1 : Int32) then
                rt (.inr (.inr (0 : Int32)))
              else
                bn (ld 40 (r0 + 4) (y.1 - (1 : Int32))) fun v5 =>
                bn (sr 40 (r0 + 4) (y.1 - (1 : Int32)) ((1 : Int32) - v5)) fun _ =>
                rt (.inl (y.1, (y.2 + (1 : Int32)))))
            else
              (if y.1 < (2 : Int32) then
                rt (.inr (.inr (0 : Int32)))
              else
                bn (ld 40 (r0 + 4) ((y.1 + (-1 : Int32)) - (1 : Int32))) fun v2 =>
                bn (ld 40 (r0 + 4) (y.1 + (-1 : Int32))) fun v3 =>
                bn (F_Law_joined v1 v2 v3) fun v4 =>
                bn (sr 40 (r0 + 4) ((y.1 + (-1 : Int32)) - (1 : Int32)) v4) fun _ =>
                rt (.inl ((y.1 + (-1 : Int32)), (y.2 + (1 : Int32))))))
          else
            K_Law_worth_49 r0 r1 x2 x4 y.1 y.2 v1)
        else
          K_Law_worth_49 r0 r1 x2 x4 y.1 y.2 v1)
      else
        rt (.inr (.inl y.1)))
    else
      rt (.inr (.inl y.1))))
set_option maxRecDepth 4000 in
theorem e_b_Law_worth_6 (f_Law_joined : Int32 → Int32 → Int32 → M Int32) (f_Law_wordWorth : Nat → Int32 → Int32 → M Int32) (k_49 : Nat → Nat → Int32 → Int32 → Int32 → Int32 → Int32 → M ((Int32 × Int32) ⊕ ((Int32) ⊕ Int32))) (r0 : Nat) (r1 : Nat) (x2 : Int32) (x4 : Int32) (y : Int32 × Int32) : wf (β := (Int32 × Int32) ⊕ ((Int32) ⊕ Int32)) L X q_Law_worth 1 (cs_Law_worth f_Law_joined f_Law_wordWorth) [5, 6, 7] [6, 49, 176] (fun pc ls st => mC (Nat.beq pc 6) (mN st <| gD ls 3 <| gI ls 5 fun a5 => gI ls 6 fun a6 => gD ls 7 <| rt (.inl (a5, a6))) (mC (Nat.beq pc 49) (mN st <| gD ls 3 <| gI ls 5 fun a5 => gI ls 6 fun a6 => gI ls 7 fun a7 => k_49 r0 r1 x2 x4 a5 a6 a7) (mC (Nat.beq pc 176) (mN st <| gD ls 1 <| gD ls 2 <| gD ls 3 <| gD ls 4 <| gI ls 5 fun a5 => gD ls 6 <| gD ls 7 <| rt (.inr (.inl a5))) (fl)))) (fun v => match v with | some (_, .int x) => rt (.inr (.inr x)) | _ => fl) 110 6 [(102, .ref r0), (110, .ref r1), (0, .int x2), (0, dV), (0, .int x4), (0, .int y.1), (0, .int y.2), (0, dV)] [] = ((if y.2 < 0 then
    rt (.inr (.inl y.1))
  else
    (if y.2 < x4 then
      (if y.2 < (Int32.ofNat 400) then
        bn (ld 400 (r0 + 3) y.2) fun v1 =>
        (if v1 < 0 then
          (if (-20 : Int32) < v1 then
            (if v1 = (-8 : Int32) then
              (if y.1 < (1 : Int32) then
                rt (.inr (.inr (0 : Int32)))
              else
                bn (ld 40 (r0 + 4) (y.1 - (1 : Int32))) fun v5 =>
                bn (sr 40 (r0 + 4) (y.1 - (1 : Int32)) ((1 : Int32) - v5)) fun _ =>
                rt (.inl (y.1, (y.2 + (1 : Int32)))))
            else
              (if y.1 < (2 : Int32) then
                rt (.inr (.inr (0 : Int32)))
              else
                bn (ld 40 (r0 + 4) ((y.1 + (-1 : Int32)) - (1 : Int32))) fun v2 =>
                bn (ld 40 (r0 + 4) (y.1 + (-1 : Int32))) fun v3 =>
                bn (f_Law_joined v1 v2 v3) fun v4 =>
                bn (sr 40 (r0 + 4) ((y.1 + (-1 : Int32)) - (1 : Int32)) v4) fun _ =>
                rt (.inl ((y.1 + (-1 : Int32)), (y.2 + (1 : Int32))))))
          else
            k_49 r0 r1 x2 x4 y.1 y.2 v1)
        else
          k_49 r0 r1 x2 x4 y.1 y.2 v1)
      else
        rt (.inr (.inl y.1)))
    else
      rt (.inr (.inl y.1))))) := rfl
theorem b_Law_worth_6 {d : Nat} (hcs : AllS L X d (cs_Law_worth F_Law_joined F_Law_wordWorth)) (r0 : Nat) (r1 : Nat) (x2 : Int32) (x4 : Int32) (t0 : okB 102 r0 = true) (t1 : okB 110 r1 = true) {o : Option Value × PH} {Q : ((Int32 × Int32) ⊕ ((Int32) ⊕ Int32)) → MI → Prop} (qb : ∀ y I, Q (.inl y) I → At L X (d + 1) 49 6 [(102, .ref r0), (110, .ref r1), (0, .int x2), (0, dV), (0, .int x4), (0, .int y.1), (0, .int y.2), (0, dV)] [] I o) (qe176 : ∀ y I, Q (.inr (.inl y)) I → At L X (d + 1) 49 176 [(102, .ref r0), (0, dV), (0, dV), (0, dV), (0, dV), (0, .int y), (0, dV), (0, dV)] [] I o) (qr : ∀ v I, Q (.inr (.inr v)) I → o = (some (.int v), HH I)) (y : Int32 × Int32) (I : MI) (r : (Int32 × Int32) ⊕ ((Int32) ⊕ Int32)) (I1 : MI) (h : B_Law_worth_6 r0 r1 x2 x4 y I = some (r, I1)) (hq : Q r I1) : At L X (d + 1) 49 6 [(102, .ref r0), (110, .ref r1), (0, .int x2), (0, dV), (0, .int x4), (0, .int y.1), (0, .int y.2), (0, dV)] [] I o := by
  refine wf_ok z_Law_worth hcs ?_ ?_ _ _ _ _ _ ⟨t0, t1, trivial, trivial, trivial, trivial, trivial, trivial, trivial⟩ trivial (unm_refl _ _) ((congrFun (e_b_Law_worth_6 (L := L) (X := X) F_Law_joined F_Law_wordWorth K_Law_worth_49 r0 r1 x2 x4 y) I).trans h)
  · intro pc ls st I2 h1 h2 h3 h
    rcases mC_ok h with ⟨hb, h⟩ | ⟨_, h⟩
    · have e := Nat.eq_of_beq_eq_true hb
      subst e
      obtain ⟨hst, h⟩ := mN_ok h
      subst hst
      obtain ⟨n3, h⟩ := gD_ok h
      obtain ⟨a5, n5, h⟩ := gI_ok h
      obtain ⟨a6, n6, h⟩ := gI_ok h
      obtain ⟨n7, h⟩ := gD_ok h
      refine at_leaf (ls2 := [(102, .ref r0), (110, .ref r1), (0, .int x2), (0, dV), (0, .int x4), (0, .int a5), (0, .int a6), (0, dV)]) h3.1 ⟨Or.inr ⟨_, (h3.2 0 rfl).trans rfl⟩, Or.inr ⟨_, (h3.2 1 rfl).trans rfl⟩, Or.inr ⟨_, (h3.2 2 rfl).trans rfl⟩, Or.inl ⟨rfl, n3⟩, Or.inr ⟨_, (h3.2 4 rfl).trans rfl⟩, Or.inr n5, Or.inr n6, Or.inl ⟨rfl, n7⟩, trivial⟩ ?_
      cases h; exact qb _ _ hq
    rcases mC_ok h with ⟨hb, h⟩ | ⟨_, h⟩
    · have e := Nat.eq_of_beq_eq_true hb
      subst e
      obtain ⟨hst, h⟩ := mN_ok h
      subst hst
      obtain ⟨n3, h⟩ := gD_ok h
      obtain ⟨a5, n5, h⟩ := gI_ok h
      obtain ⟨a6, n6, h⟩ := gI_ok h
      obtain ⟨a7, n7, h⟩ := gI_ok h
      refine at_leaf (ls2 := [(102, .ref r0), (110, .ref r1), (0, .int x2), (0, dV), (0, .int x4), (0, .int a5), (0, .int a6), (0, .int a7)]) h3.1 ⟨Or.inr ⟨_, (h3.2 0 rfl).trans rfl⟩, Or.inr ⟨_, (h3.2 1 rfl).trans rfl⟩, Or.inr ⟨_, (h3.2 2 rfl).trans rfl⟩, Or.inl ⟨rfl, n3⟩, Or.inr ⟨_, (h3.2 4 rfl).trans rfl⟩, Or.inr n5, Or.inr n6, Or.inr n7, trivial⟩ ?_
      exact s_Law_worth_49 hcs r0 r1 x2 x4 a5 a6 a7 t0 t1 qb qe176 qr _ _ _ h hq
    rcases mC_ok h with ⟨hb, h⟩ | ⟨_, h⟩
    · have e := Nat.eq_of_beq_eq_true hb
      subst e
      obtain ⟨hst, h⟩ := mN_ok h
      subst hst
      obtain ⟨n1, h⟩ := gD_ok h
      obtain ⟨n2, h⟩ := gD_ok h
      obtain ⟨n3, h⟩ := gD_ok h
      obtain ⟨n4, h⟩ := gD_ok h
      obtain ⟨a5, n5, h⟩ := gI_ok h
      obtain ⟨n6, h⟩ := gD_ok h
      obtain ⟨n7, h⟩ := gD_ok h
      refine at_leaf (ls2 := [(102, .ref r0), (0, dV), (0, dV), (0, dV), (0, dV), (0, .int a5), (0, dV), (0, dV)]) h3.1 ⟨Or.inr ⟨_, (h3.2 0 rfl).trans rfl⟩, Or.inl ⟨rfl, n1⟩, Or.inl ⟨rfl, n2⟩, Or.inl ⟨rfl, n3⟩, Or.inl ⟨rfl, n4⟩, Or.inr n5, Or.inl ⟨rfl, n6⟩, Or.inl ⟨rfl, n7⟩, trivial⟩ ?_
      cases h; exact qe176 _ _ hq
    cases h
  · intro v I2 _ h
    split at h
    · cases h; exact qr _ _ hq
    · cases h
def K_Law_worth_176 (r0 : Nat) (x5 : Int32) : M (Int32) :=
  (if 0 < x5 then
    bn (ld 40 (r0 + 4) (x5 - (1 : Int32))) fun v1 =>
    rt v1
  else
    rt (0 : Int32))
set_option maxRecDepth 4000 in
theorem e_s_Law_worth_176 (f_Law_joined : Int32 → Int32 → Int32 → M Int32) (f_Law_wordWorth : Nat → Int32 → Int32 → M Int32) (r0 : Nat) (x5 : Int32) : wf (β := Int32) L X q_Law_worth 1 (cs_Law_worth f_Law_joined f_Law_wordWorth) [] [6, 49, 176] (fun _ _ _ => fl) (fun v => match v with | some (_, .int x) => rt x | _ => fl) 110 176 [(102, .ref r0), (0, dV), (0, dV), (0, dV), (0, dV), (0, .int x5), (0, dV), (0, dV)] [] = ((if 0 < x5 then
    bn (ld 40 (r0 + 4) (x5 - (1 : Int32))) fun v1 =>
    rt v1
  else
    rt (0 : Int32))) := rfl
theorem s_Law_worth_176 {d : Nat} (hcs : AllS L X d (cs_Law_worth F_Law_joined F_Law_wordWorth)) (r0 : Nat) (x5 : Int32) (t0 : okB 102 r0 = true) {o : Option Value × PH} {Q : (Int32) → MI → Prop} (q0 : ∀ v I, Q v I → o = (some (.int v), HH I)) (I : MI) (r : Int32) (I1 : MI) (h : K_Law_worth_176 r0 x5 I = some (r, I1)) (hq : Q r I1) : At L X (d + 1) 49 176 [(102, .ref r0), (0, dV), (0, dV), (0, dV), (0, dV), (0, .int x5), (0, dV), (0, dV)] [] I o := by
  refine wf_ok z_Law_worth hcs ?_ ?_ _ _ _ _ _ ⟨t0, trivial, trivial, trivial, trivial, trivial, trivial, trivial, trivial⟩ trivial (unm_refl _ _) ((congrFun (e_s_Law_worth_176 (L := L) (X := X) F_Law_joined F_Law_wordWorth r0 x5) I).trans h)
  · intro pc ls st I2 h1 h2 h3 h
    cases h
  · intro v I2 _ h
    split at h
    · cases h; exact q0 _ _ hq
    · cases h
def K_Law_worth_6 (r0 : Nat) (r1 : Nat) (x2 : Int32) (x4 : Int32) (x5 : Int32) (x6 : Int32) : M (Int32) :=
  bn (lp (B_Law_worth_6 r0 r1 x2 x4) FU (x5, x6)) fun e => match e with
  | .inl e => K_Law_worth_176 r0 e
  | .inr e => rt e
theorem s_Law_worth_6 {d : Nat} (hcs : AllS L X d (cs_Law_worth F_Law_joined F_Law_wordWorth)) (r0 : Nat) (r1 : Nat) (x2 : Int32) (x4 : Int32) (x5 : Int32) (x6 : Int32) (t0 : okB 102 r0 = true) (t1 : okB 110 r1 = true) {o : Option Value × PH} {Q : (Int32) → MI → Prop} (q0 : ∀ v I, Q v I → o = (some (.int v), HH I)) (I : MI) (r : Int32) (I1 : MI) (h : K_Law_worth_6 r0 r1 x2 x4 x5 x6 I = some (r, I1)) (hq : Q r I1) : At L X (d + 1) 49 6 [(102, .ref r0), (110, .ref r1), (0, .int x2), (0, dV), (0, .int x4), (0, .int x5), (0, .int x6), (0, dV)] [] I o := by
  unfold K_Law_worth_6 at h
  obtain ⟨e, I2, h1, h2⟩ := bn_some h
  have w0 := fun w => at_lp (body := B_Law_worth_6 r0 r1 x2 x4) (P := (fun (y : Int32 × Int32) I => At L X (d + 1) 49 6 [(102, .ref r0), (110, .ref r1), (0, .int x2), (0, dV), (0, .int x4), (0, .int y.1), (0, .int y.2), (0, dV)] [] I o)) (Q := (fun (e : (Int32) ⊕ Int32) I => (match e with | .inl e => K_Law_worth_176 r0 e | .inr e => rt e : M (Int32)) I = some (r, I1))) w FU (x5, x6) I e I2 h1 h2
  refine w0 ?_
  intro y I r2 I3 h hq2
  exact b_Law_worth_6 hcs r0 r1 x2 x4 t0 t1 (Q := SQ (fun (y : Int32 × Int32) I => At L X (d + 1) 49 6 [(102, .ref r0), (110, .ref r1), (0, .int x2), (0, dV), (0, .int x4), (0, .int y.1), (0, .int y.2), (0, dV)] [] I o) (fun (e : (Int32) ⊕ Int32) I => (match e with | .inl e => K_Law_worth_176 r0 e | .inr e => rt e : M (Int32)) I = some (r, I1))) (fun _ _ w => w) (fun y I w => s_Law_worth_176 hcs r0 y t0 q0 _ _ _ w hq) (fun v I w => by cases w; exact q0 _ _ hq) y I r2 I3 h hq2
def F_Law_worth (r0 : Nat) (r1 : Nat) (x2 : Int32) (x3 : Int32) (x4 : Int32) : M (Int32) :=
  K_Law_worth_6 r0 r1 x2 x4 (0 : Int32) x3
set_option maxRecDepth 4000 in
theorem e_s_Law_worth_0 (f_Law_joined : Int32 → Int32 → Int32 → M Int32) (f_Law_wordWorth : Nat → Int32 → Int32 → M Int32) (k_6 : Nat → Nat → Int32 → Int32 → Int32 → Int32 → M (Int32)) (r0 : Nat) (r1 : Nat) (x2 : Int32) (x3 : Int32) (x4 : Int32) : wf (β := Int32) L X q_Law_worth 1 (cs_Law_worth f_Law_joined f_Law_wordWorth) [5, 6] [6, 49, 176] (fun pc ls st => mC (Nat.beq pc 6) (mN st <| gD ls 3 <| gI ls 5 fun a5 => gI ls 6 fun a6 => gD ls 7 <| k_6 r0 r1 x2 x4 a5 a6) (fl)) (fun v => match v with | some (_, .int x) => rt x | _ => fl) 110 0 [(102, .ref r0), (110, .ref r1), (0, .int x2), (0, .int x3), (0, .int x4), (0, dV), (0, dV), (0, dV)] [] = (k_6 r0 r1 x2 x4 (0 : Int32) x3) := rfl
theorem s_Law_worth_0 {d : Nat} (hcs : AllS L X d (cs_Law_worth F_Law_joined F_Law_wordWorth)) (r0 : Nat) (r1 : Nat) (x2 : Int32) (x3 : Int32) (x4 : Int32) (t0 : okB 102 r0 = true) (t1 : okB 110 r1 = true) {o : Option Value × PH} {Q : (Int32) → MI → Prop} (q0 : ∀ v I, Q v I → o = (some (.int v), HH I)) (I : MI) (r : Int32) (I1 : MI) (h : F_Law_worth r0 r1 x2 x3 x4 I = some (r, I1)) (hq : Q r I1) : At L X (d + 1) 49 0 [(102, .ref r0), (110, .ref r1), (0, .int x2), (0, .int x3), (0, .int x4), (0, dV), (0, dV), (0, dV)] [] I o := by
  refine wf_ok z_Law_worth hcs ?_ ?_ _ _ _ _ _ ⟨t0, t1, trivial, trivial, trivial, trivial, trivial, trivial, trivial⟩ trivial (unm_refl _ _) ((congrFun (e_s_Law_worth_0 (L := L) (X := X) F_Law_joined F_Law_wordWorth K_Law_worth_6 r0 r1 x2 x3 x4) I).trans h)
  · intro pc ls st I2 h1 h2 h3 h
    rcases mC_ok h with ⟨hb, h⟩ | ⟨_, h⟩
    · have e := Nat.eq_of_beq_eq_true hb
      subst e
      obtain ⟨hst, h⟩ := mN_ok h
      subst hst
      obtain ⟨n3, h⟩ := gD_ok h
      obtain ⟨a5, n5, h⟩ := gI_ok h
      obtain ⟨a6, n6, h⟩ := gI_ok h
      obtain ⟨n7, h⟩ := gD_ok h
      refine at_leaf (ls2 := [(102, .ref r0), (110, .ref r1), (0, .int x2), (0, dV), (0, .int x4), (0, .int a5), (0, .int a6), (0, dV)]) h3.1 ⟨Or.inr ⟨_, (h3.2 0 rfl).trans rfl⟩, Or.inr ⟨_, (h3.2 1 rfl).trans rfl⟩, Or.inr ⟨_, (h3.2 2 rfl).trans rfl⟩, Or.inl ⟨rfl, n3⟩, Or.inr ⟨_, (h3.2 4 rfl).trans rfl⟩, Or.inr n5, Or.inr n6, Or.inl ⟨rfl, n7⟩, trivial⟩ ?_
      exact s_Law_worth_6 hcs r0 r1 x2 x4 a5 a6 t0 t1 q0 _ _ _ h hq
    cases h
  · intro v I2 _ h
    split at h
    · cases h; exact q0 _ _ hq
    · cases h
theorem w_Law_worth {d : Nat} (hcs : AllS L X d (cs_Law_worth F_Law_joined F_Law_wordWorth)) : Snd L X (d + 1) 49 5 (W_Law_worth F_Law_worth) := by
  refine ⟨_, z_Law_worth, rfl, fun β args k I r hty hlen h => ?_⟩
  unfold W_Law_worth at h
  split at h
  · rename_i t0 a0 t1 a1 u2 a2 u3 a3 u4 a4
    obtain ⟨hb0, h⟩ := mB_ok h
    have e0 := Nat.eq_of_beq_eq_true hb0
    have g0 : okB 102 a0 = true := e0 ▸ hty.1
    obtain ⟨hb1, h⟩ := mB_ok h
    have e1 := Nat.eq_of_beq_eq_true hb1
    have g1 : okB 110 a1 = true := e1 ▸ hty.2.1
    obtain ⟨v, I1, h1, h2⟩ := bn_some h
    refine ⟨gf_obj (c := 2) (by decide) g0, rfl, some (0, .int v), I1, trivial, ?_, h2⟩
    exact s_Law_worth_0 hcs a0 a1 a2 a3 a4 g0 g1 (Q := fun w I => w = v ∧ I = I1) (fun w I q => by obtain ⟨rfl, rfl⟩ := q; rfl) I v I1 h1 ⟨rfl, rfl⟩
  · cases h
theorem S_Law_worth {d : Nat} (hd : 4 ≤ d) : Snd L X d 49 5 (W_Law_worth F_Law_worth) := by
  obtain ⟨e, rfl⟩ : ∃ e, d = e + 1 := ⟨d - 1, by omega⟩
  exact w_Law_worth ⟨S_Law_joined (by omega), S_Law_wordWorth (by omega), trivial⟩
set_option maxRecDepth 100000 in
theorem z_Law_tells : pT[47]? = some (q_Law_tells, 4, 9, 1, 2) := rfl
def W_Law_tells (F : Nat → Nat → Int32 → Int32 → M Int32) : CSem := fun _ args k => match args with
  | [(t0, .ref a0), (t1, .ref a1), (_, .int a2), (_, .int a3)] => mB (Nat.beq t0 102) <| mB (Nat.beq t1 110) <| bn (F a0 a1 a2 a3) fun v => k (some (0, .int v))
  | _ => fl
def cs_Law_tells (f_Law_untold : Nat → Int32 → Int32 → M Int32) (f_Law_worth : Nat → Nat → Int32 → Int32 → Int32 → M Int32) (f_Table_at : Nat → Int32 → Int32 → M Int32) : List (Nat × Nat × CSem) := [(48, 3, W_Law_untold f_Law_untold), (49, 5, W_Law_worth f_Law_worth), (36, 3, W_Table_at f_Table_at)]
def B_Law_tells_11 (r0 : Nat) (r1 : Nat) (x2 : Int32) (x3 : Int32) (x4 : Int32) (y : Int32) : M ((Int32) ⊕ ((Int32 × Int32) ⊕ (Unit))) :=
  bn (rd (r0 + 1) 3) fun v1 =>
  (if y < v1 then
    bn (F_Table_at (r0 + 1) y (2 : Int32)) fun v2 =>
    bn (F_Table_at (r0 + 1) y (3 : Int32)) fun v3 =>
    bn (F_Table_at (r0 + 1) y (0 : Int32)) fun v4 =>
    (if v4 = x3 then
      (if v2 = v3 then
        (if (1 : Int32) = 0 then
          rt (.inl (y + (1 : Int32)))
        else
          rt (.inr (.inl (y, v2))))
      else
        bn (F_Law_worth r0 r1 x2 v2 v3) fun v5 =>
        (if v5 = 0 then
          (if (0 : Int32) = 0 then
            rt (.inl (y + (1 : Int32)))
          else
            rt (.inr (.inl (y, v2))))
        else
          (if (1 : Int32) = 0 then
            rt (.inl (y + (1 : Int32)))
          else
            rt (.inr (.inl (y, v2))))))
    else
      (if (0 : Int32) = 0 then
        rt (.inl (y + (1 : Int32)))
      else
        rt (.inr (.inl (y, v2)))))
  else
    rt (.inr (.inr ())))
set_option maxRecDepth 4000 in
theorem e_b_Law_tells_11 (f_Law_untold : Nat → Int32 → Int32 → M Int32) (f_Law_worth : Nat → Nat → Int32 → Int32 → Int32 → M Int32) (f_Table_at : Nat → Int32 → Int32 → M Int32) (r0 : Nat) (r1 : Nat) (x2 : Int32) (x3 : Int32) (x4 : Int32) (y : Int32) : wf (β := (Int32) ⊕ ((Int32 × Int32) ⊕ (Unit))) L X q_Law_tells 1 (cs_Law_tells f_Law_untold f_Law_worth f_Table_at) [5, 6, 7, 8] [11, 93, 122] (fun pc ls st => mC (Nat.beq pc 11) (mN st <| gI ls 5 fun a5 => gD ls 6 <| gD ls 7 <| gD ls 8 <| rt (.inl a5)) (mC (Nat.beq pc 93) (mN st <| gD ls 4 <| gI ls 5 fun a5 => gI ls 6 fun a6 => gD ls 7 <| gD ls 8 <| rt (.inr (.inl (a5, a6)))) (mC (Nat.beq pc 122) (mN st <| gD ls 0 <| gD ls 1 <| gD ls 2 <| gD ls 5 <| gD ls 6 <| gD ls 7 <| gD ls 8 <| rt (.inr (.inr ()))) (fl)))) (fun _ => fl) 76 11 [(102, .ref r0), (110, .ref r1), (0, .int x2), (0, .int x3), (0, .int x4), (0, .int y), (0, dV), (0, dV), (0, dV)] [] = (bn (rd (r0 + 1) 3) fun v1 =>
  (if y < v1 then
    bn (f_Table_at (r0 + 1) y (2 : Int32)) fun v2 =>
    bn (f_Table_at (r0 + 1) y (3 : Int32)) fun v3 =>
    bn (f_Table_at (r0 + 1) y (0 : Int32)) fun v4 =>
    (if v4 = x3 then
      (if v2 = v3 then
        (if (1 : Int32) = 0 then
          rt (.inl (y + (1 : Int32)))
        else
          rt (.inr (.inl (y, v2))))
      else
        bn (f_Law_worth r0 r1 x2 v2 v3) fun v5 =>
        (if v5 = 0 then
          (if (0 : Int32) = 0 then
            rt (.inl (y + (1 : Int32)))
          else
            rt (.inr (.inl (y, v2))))
        else
          (if (1 : Int32) = 0 then
            rt (.inl (y + (1 : Int32)))
          else
            rt (.inr (.inl (y, v2))))))
    else
      (if (0 : Int32) = 0 then
        rt (.inl (y + (1 : Int32)))
      else
        rt (.inr (.inl (y, v2)))))
  else
    rt (.inr (.inr ())))) := rfl
theorem b_Law_tells_11 {d : Nat} (hcs : AllS L X d (cs_Law_tells F_Law_untold F_Law_worth F_Table_at)) (r0 : Nat) (r1 : Nat) (x2 : Int32) (x3 : Int32) (x4 : Int32) (t0 : okB 102 r0 = true) (t1 : okB 110 r1 = true) {o : Option Value × PH} {Q : ((Int32) ⊕ ((Int32 × Int32) ⊕ (Unit))) → MI → Prop} (qb : ∀ y I, Q (.inl y) I → At L X (d + 1) 47 11 [(102, .ref r0), (110, .ref r1), (0, .int x2), (0, .int x3), (0, .int x4), (0, .int y), (0, dV), (0, dV), (0, dV)] [] I o) (qe93 : ∀ y I, Q (.inr (.inl y)) I → At L X (d + 1) 47 93 [(102, .ref r0), (110, .ref r1), (0, .int x2), (0, .int x3), (0, dV), (0, .int y.1), (0, .int y.2), (0, dV), (0, dV)] [] I o) (qe122 : ∀ y I, Q (.inr (.inr y)) I → At L X (d + 1) 47 122 [(0, dV), (0, dV), (0, dV), (0, .int x3), (0, .int x4), (0, dV), (0, dV), (0, dV), (0, dV)] [] I o) (y : Int32) (I : MI) (r : (Int32) ⊕ ((Int32 × Int32) ⊕ (Unit))) (I1 : MI) (h : B_Law_tells_11 r0 r1 x2 x3 x4 y I = some (r, I1)) (hq : Q r I1) : At L X (d + 1) 47 11 [(102, .ref r0), (110, .ref r1), (0, .int x2), (0, .int x3), (0, .int x4), (0, .int y), (0, dV), (0, dV), (0, dV)] [] I o := by
  refine wf_ok z_Law_tells hcs ?_ ?_ _ _ _ _ _ ⟨t0, t1, trivial, trivial, trivial, trivial, trivial, trivial, trivial, trivial⟩ trivial (unm_refl _ _) ((congrFun (e_b_Law_tells_11 (L := L) (X := X) F_Law_untold F_Law_worth F_Table_at r0 r1 x2 x3 x4 y) I).trans h)
  · intro pc ls st I2 h1 h2 h3 h
    rcases mC_ok h with ⟨hb, h⟩ | ⟨_, h⟩
    · have e := Nat.eq_of_beq_eq_true hb
      subst e
      obtain ⟨hst, h⟩ := mN_ok h
      subst hst
      obtain ⟨a5, n5, h⟩ := gI_ok h
      obtain ⟨n6, h⟩ := gD_ok h
      obtain ⟨n7, h⟩ := gD_ok h
      obtain ⟨n8, h⟩ := gD_ok h
      refine at_leaf (ls2 := [(102, .ref r0), (110, .ref r1), (0, .int x2), (0, .int x3), (0, .int x4), (0, .int a5), (0, dV), (0, dV), (0, dV)]) h3.1 ⟨Or.inr ⟨_, (h3.2 0 rfl).trans rfl⟩, Or.inr ⟨_, (h3.2 1 rfl).trans rfl⟩, Or.inr ⟨_, (h3.2 2 rfl).trans rfl⟩, Or.inr ⟨_, (h3.2 3 rfl).trans rfl⟩, Or.inr ⟨_, (h3.2 4 rfl).trans rfl⟩, Or.inr n5, Or.inl ⟨rfl, n6⟩, Or.inl ⟨rfl, n7⟩, Or.inl ⟨rfl, n8⟩, trivial⟩ ?_
      cases h; exact qb _ _ hq
    rcases mC_ok h with ⟨hb, h⟩ | ⟨_, h⟩
    · have e := Nat.eq_of_beq_eq_true hb
      subst e
      obtain ⟨hst, h⟩ := mN_ok h
      subst hst
      obtain ⟨n4, h⟩ := gD_ok h
      obtain ⟨a5, n5, h⟩ := gI_ok h
      obtain ⟨a6, n6, h⟩ := gI_ok h
      obtain ⟨n7, h⟩ := gD_ok h
      obtain ⟨n8, h⟩ := gD_ok h
      refine at_leaf (ls2 := [(102, .ref r0), (110, .ref r1), (0, .int x2), (0, .int x3), (0, dV), (0, .int a5), (0, .int a6), (0, dV), (0, dV)]) h3.1 ⟨Or.inr ⟨_, (h3.2 0 rfl).trans rfl⟩, Or.inr ⟨_, (h3.2 1 rfl).trans rfl⟩, Or.inr ⟨_, (h3.2 2 rfl).trans rfl⟩, Or.inr ⟨_, (h3.2 3 rfl).trans rfl⟩, Or.inl ⟨rfl, n4⟩, Or.inr n5, Or.inr n6, Or.inl ⟨rfl, n7⟩, Or.inl ⟨rfl, n8⟩, trivial⟩ ?_
      cases h; exact qe93 _ _ hq
    rcases mC_ok h with ⟨hb, h⟩ | ⟨_, h⟩
    · have e := Nat.eq_of_beq_eq_true hb
      subst e
      obtain ⟨hst, h⟩ := mN_ok h
      subst hst
      obtain ⟨n0, h⟩ := gD_ok h
      obtain ⟨n1, h⟩ := gD_ok h
      obtain ⟨n2, h⟩ := gD_ok h
      obtain ⟨n5, h⟩ := gD_ok h
      obtain ⟨n6, h⟩ := gD_ok h
      obtain ⟨n7, h⟩ := gD_ok h
      obtain ⟨n8, h⟩ := gD_ok h
      refine at_leaf (ls2 := [(0, dV), (0, dV), (0, dV), (0, .int x3), (0, .int x4), (0, dV), (0, dV), (0, dV), (0, dV)]) h3.1 ⟨Or.inl ⟨rfl, n0⟩, Or.inl ⟨rfl, n1⟩, Or.inl ⟨rfl, n2⟩, Or.inr ⟨_, (h3.2 3 rfl).trans rfl⟩, Or.inr ⟨_, (h3.2 4 rfl).trans rfl⟩, Or.inl ⟨rfl, n5⟩, Or.inl ⟨rfl, n6⟩, Or.inl ⟨rfl, n7⟩, Or.inl ⟨rfl, n8⟩, trivial⟩ ?_
      cases h; exact qe122 _ _ hq
    cases h
  · intro v I2 _ h
    cases h
def K_Law_tells_122 (x3 : Int32) (x4 : Int32) : M (Int32) :=
  (if x3 = 0 then
    rt (if (0 : Int32) < (if x4 < (1000 : Int32) then x4 else (1000 : Int32)) then (if x4 < (1000 : Int32) then x4 else (1000 : Int32)) else (0 : Int32))
  else
    rt (if (0 : Int32) < (if x4 < (99 : Int32) then x4 else (99 : Int32)) then (if x4 < (99 : Int32) then x4 else (99 : Int32)) else (0 : Int32)))
set_option maxRecDepth 4000 in
theorem e_s_Law_tells_122 (f_Law_untold : Nat → Int32 → Int32 → M Int32) (f_Law_worth : Nat → Nat → Int32 → Int32 → Int32 → M Int32) (f_Table_at : Nat → Int32 → Int32 → M Int32) (x3 : Int32) (x4 : Int32) : wf (β := Int32) L X q_Law_tells 1 (cs_Law_tells f_Law_untold f_Law_worth f_Table_at) [] [11, 93, 122] (fun _ _ _ => fl) (fun v => match v with | some (_, .int x) => rt x | _ => fl) 76 122 [(0, dV), (0, dV), (0, dV), (0, .int x3), (0, .int x4), (0, dV), (0, dV), (0, dV), (0, dV)] [] = ((if x3 = 0 then
    rt (if (0 : Int32) < (if x4 < (1000 : Int32) then x4 else (1000 : Int32)) then (if x4 < (1000 : Int32) then x4 else (1000 : Int32)) else (0 : Int32))
  else
    rt (if (0 : Int32) < (if x4 < (99 : Int32) then x4 else (99 : Int32)) then (if x4 < (99 : Int32) then x4 else (99 : Int32)) else (0 : Int32)))) := rfl
theorem s_Law_tells_122 {d : Nat} (hcs : AllS L X d (cs_Law_tells F_Law_untold F_Law_worth F_Table_at)) (x3 : Int32) (x4 : Int32) {o : Option Value × PH} {Q : (Int32) → MI → Prop} (q0 : ∀ v I, Q v I → o = (some (.int v), HH I)) (I : MI) (r : Int32) (I1 : MI) (h : K_Law_tells_122 x3 x4 I = some (r, I1)) (hq : Q r I1) : At L X (d + 1) 47 122 [(0, dV), (0, dV), (0, dV), (0, .int x3), (0, .int x4), (0, dV), (0, dV), (0, dV), (0, dV)] [] I o := by
  refine wf_ok z_Law_tells hcs ?_ ?_ _ _ _ _ _ ⟨trivial, trivial, trivial, trivial, trivial, trivial, trivial, trivial, trivial, trivial⟩ trivial (unm_refl _ _) ((congrFun (e_s_Law_tells_122 (L := L) (X := X) F_Law_untold F_Law_worth F_Table_at x3 x4) I).trans h)
  · intro pc ls st I2 h1 h2 h3 h
    cases h
  · intro v I2 _ h
    split at h
    · cases h; exact q0 _ _ hq
    · cases h
def K_Law_tells_93 (r0 : Nat) (r1 : Nat) (x2 : Int32) (x3 : Int32) (x5 : Int32) (x6 : Int32) : M (Int32) :=
  bn (F_Table_at (r0 + 1) x5 (1 : Int32)) fun v1 =>
  bn (F_Law_worth r0 r1 x2 v1 x6) fun v2 =>
  K_Law_tells_122 x3 v2
set_option maxRecDepth 4000 in
theorem e_s_Law_tells_93 (f_Law_untold : Nat → Int32 → Int32 → M Int32) (f_Law_worth : Nat → Nat → Int32 → Int32 → Int32 → M Int32) (f_Table_at : Nat → Int32 → Int32 → M Int32) (k_122 : Int32 → Int32 → M (Int32)) (r0 : Nat) (r1 : Nat) (x2 : Int32) (x3 : Int32) (x5 : Int32) (x6 : Int32) : wf (β := Int32) L X q_Law_tells 1 (cs_Law_tells f_Law_untold f_Law_worth f_Table_at) [4] [11, 93, 122] (fun pc ls st => mC (Nat.beq pc 122) (mN st <| gD ls 0 <| gD ls 1 <| gD ls 2 <| gI ls 4 fun a4 => gD ls 5 <| gD ls 6 <| gD ls 7 <| gD ls 8 <| k_122 x3 a4) (fl)) (fun v => match v with | some (_, .int x) => rt x | _ => fl) 76 93 [(102, .ref r0), (110, .ref r1), (0, .int x2), (0, .int x3), (0, dV), (0, .int x5), (0, .int x6), (0, dV), (0, dV)] [] = (bn (f_Table_at (r0 + 1) x5 (1 : Int32)) fun v1 =>
  bn (f_Law_worth r0 r1 x2 v1 x6) fun v2 =>
  k_122 x3 v2) := rfl
theorem s_Law_tells_93 {d : Nat} (hcs : AllS L X d (cs_Law_tells F_Law_untold F_Law_worth F_Table_at)) (r0 : Nat) (r1 : Nat) (x2 : Int32) (x3 : Int32) (x5 : Int32) (x6 : Int32) (t0 : okB 102 r0 = true) (t1 : okB 110 r1 = true) {o : Option Value × PH} {Q : (Int32) → MI → Prop} (q0 : ∀ v I, Q v I → o = (some (.int v), HH I)) (I : MI) (r : Int32) (I1 : MI) (h : K_Law_tells_93 r0 r1 x2 x3 x5 x6 I = some (r, I1)) (hq : Q r I1) : At L X (d + 1) 47 93 [(102, .ref r0), (110, .ref r1), (0, .int x2), (0, .int x3), (0, dV), (0, .int x5), (0, .int x6), (0, dV), (0, dV)] [] I o := by
  refine wf_ok z_Law_tells hcs ?_ ?_ _ _ _ _ _ ⟨t0, t1, trivial, trivial, trivial, trivial, trivial, trivial, trivial, trivial⟩ trivial (unm_refl _ _) ((congrFun (e_s_Law_tells_93 (L := L) (X := X) F_Law_untold F_Law_worth F_Table_at K_Law_tells_122 r0 r1 x2 x3 x5 x6) I).trans h)
  · intro pc ls st I2 h1 h2 h3 h
    rcases mC_ok h with ⟨hb, h⟩ | ⟨_, h⟩
    · have e := Nat.eq_of_beq_eq_true hb
      subst e
      obtain ⟨hst, h⟩ := mN_ok h
      subst hst
      obtain ⟨n0, h⟩ := gD_ok h
      obtain ⟨n1, h⟩ := gD_ok h
      obtain ⟨n2, h⟩ := gD_ok h
      obtain ⟨a4, n4, h⟩ := gI_ok h
      obtain ⟨n5, h⟩ := gD_ok h
      obtain ⟨n6, h⟩ := gD_ok h
      obtain ⟨n7, h⟩ := gD_ok h
      obtain ⟨n8, h⟩ := gD_ok h
      refine at_leaf (ls2 := [(0, dV), (0, dV), (0, dV), (0, .int x3), (0, .int a4), (0, dV), (0, dV), (0, dV), (0, dV)]) h3.1 ⟨Or.inl ⟨rfl, n0⟩, Or.inl ⟨rfl, n1⟩, Or.inl ⟨rfl, n2⟩, Or.inr ⟨_, (h3.2 3 rfl).trans rfl⟩, Or.inr n4, Or.inl ⟨rfl, n5⟩, Or.inl ⟨rfl, n6⟩, Or.inl ⟨rfl, n7⟩, Or.inl ⟨rfl, n8⟩, trivial⟩ ?_
      exact s_Law_tells_122 hcs x3 a4 q0 _ _ _ h hq
    cases h
  · intro v I2 _ h
    split at h
    · cases h; exact q0 _ _ hq
    · cases h
def K_Law_tells_11 (r0 : Nat) (r1 : Nat) (x2 : Int32) (x3 : Int32) (x4 : Int32) (x5 : Int32) : M (Int32) :=
  bn (lp (B_Law_tells_11 r0 r1 x2 x3 x4) FU x5) fun e => match e with
  | .inl e => K_Law_tells_93 r0 r1 x2 x3 e.1 e.2
  | .inr e => K_Law_tells_122 x3 x4
theorem s_Law_tells_11 {d : Nat} (hcs : AllS L X d (cs_Law_tells F_Law_untold F_Law_worth F_Table_at)) (r0 : Nat) (r1 : Nat) (x2 : Int32) (x3 : Int32) (x4 : Int32) (x5 : Int32) (t0 : okB 102 r0 = true) (t1 : okB 110 r1 = true) {o : Option Value × PH} {Q : (Int32) → MI → Prop} (q0 : ∀ v I, Q v I → o = (some (.int v), HH I)) (I : MI) (r : Int32) (I1 : MI) (h : K_Law_tells_11 r0 r1 x2 x3 x4 x5 I = some (r, I1)) (hq : Q r I1) : At L X (d + 1) 47 11 [(102, .ref r0), (110, .ref r1), (0, .int x2), (0, .int x3), (0, .int x4), (0, .int x5), (0, dV), (0, dV), (0, dV)] [] I o := by
  unfold K_Law_tells_11 at h
  obtain ⟨e, I2, h1, h2⟩ := bn_some h
  have w0 := fun w => at_lp (body := B_Law_tells_11 r0 r1 x2 x3 x4) (P := (fun (y : Int32) I => At L X (d + 1) 47 11 [(102, .ref r0), (110, .ref r1), (0, .int x2), (0, .int x3), (0, .int x4), (0, .int y), (0, dV), (0, dV), (0, dV)] [] I o)) (Q := (fun (e : (Int32 × Int32) ⊕ (Unit)) I => (match e with | .inl e => K_Law_tells_93 r0 r1 x2 x3 e.1 e.2 | .inr e => K_Law_tells_122 x3 x4 : M (Int32)) I = some (r, I1))) w FU x5 I e I2 h1 h2
  refine w0 ?_
  intro y I r2 I3 h hq2
  exact b_Law_tells_11 hcs r0 r1 x2 x3 x4 t0 t1 (Q := SQ (fun (y : Int32) I => At L X (d + 1) 47 11 [(102, .ref r0), (110, .ref r1), (0, .int x2), (0, .int x3), (0, .int x4), (0, .int y), (0, dV), (0, dV), (0, dV)] [] I o) (fun (e : (Int32 × Int32) ⊕ (Unit)) I => (match e with | .inl e => K_Law_tells_93 r0 r1 x2 x3 e.1 e.2 | .inr e => K_Law_tells_122 x3 x4 : M (Int32)) I = some (r, I1))) (fun _ _ w => w) (fun y I w => s_Law_tells_93 hcs r0 r1 x2 x3 y.1 y.2 t0 t1 q0 _ _ _ w hq) (fun y I w => s_Law_tells_122 hcs x3 x4 q0 _ _ _ w hq) y I r2 I3 h hq2
def F_Law_tells (r0 : Nat) (r1 : Nat) (x2 : Int32) (x3 : Int32) : M (Int32) :=
  bn (F_Law_untold r1 x2 x3) fun v1 =>
  K_Law_tells_11 r0 r1 x2 x3 v1 (0 : Int32)
set_option maxRecDepth 4000 in
theorem e_s_Law_tells_0 (f_Law_untold : Nat → Int32 → Int32 → M Int32) (f_Law_worth : Nat → Nat → Int32 → Int32 → Int32 → M Int32) (f_Table_at : Nat → Int32 → Int32 → M Int32) (k_11 : Nat → Nat → Int32 → Int32 → Int32 → Int32 → M (Int32)) (r0 : Nat) (r1 : Nat) (x2 : Int32) (x3 : Int32) : wf (β := Int32) L X q_Law_tells 1 (cs_Law_tells f_Law_untold f_Law_worth f_Table_at) [4, 5] [11, 93, 122] (fun pc ls st => mC (Nat.beq pc 11) (mN st <| gI ls 4 fun a4 => gI ls 5 fun a5 => gD ls 6 <| gD ls 7 <| gD ls 8 <| k_11 r0 r1 x2 x3 a4 a5) (fl)) (fun v => match v with | some (_, .int x) => rt x | _ => fl) 76 0 [(102, .ref r0), (110, .ref r1), (0, .int x2), (0, .int x3), (0, dV), (0, dV), (0, dV), (0, dV), (0, dV)] [] = (bn (f_Law_untold r1 x2 x3) fun v1 =>
  k_11 r0 r1 x2 x3 v1 (0 : Int32)) := rfl
theorem s_Law_tells_0 {d : Nat} (hcs : AllS L X d (cs_Law_tells F_Law_untold F_Law_worth F_Table_at)) (r0 : Nat) (r1 : Nat) (x2 : Int32) (x3 : Int32) (t0 : okB 102 r0 = true) (t1 : okB 110 r1 = true) {o : Option Value × PH} {Q : (Int32) → MI → Prop} (q0 : ∀ v I, Q v I → o = (some (.int v), HH I)) (I : MI) (r : Int32) (I1 : MI) (h : F_Law_tells r0 r1 x2 x3 I = some (r, I1)) (hq : Q r I1) : At L X (d + 1) 47 0 [(102, .ref r0), (110, .ref r1), (0, .int x2), (0, .int x3), (0, dV), (0, dV), (0, dV), (0, dV), (0, dV)] [] I o := by
  refine wf_ok z_Law_tells hcs ?_ ?_ _ _ _ _ _ ⟨t0, t1, trivial, trivial, trivial, trivial, trivial, trivial, trivial, trivial⟩ trivial (unm_refl _ _) ((congrFun (e_s_Law_tells_0 (L := L) (X := X) F_Law_untold F_Law_worth F_Table_at K_Law_tells_11 r0 r1 x2 x3) I).trans h)
  · intro pc ls st I2 h1 h2 h3 h
    rcases mC_ok h with ⟨hb, h⟩ | ⟨_, h⟩
    · have e := Nat.eq_of_beq_eq_true hb
      subst e
      obtain ⟨hst, h⟩ := mN_ok h
      subst hst
      obtain ⟨a4, n4, h⟩ := gI_ok h
      obtain ⟨a5, n5, h⟩ := gI_ok h
      obtain ⟨n6, h⟩ := gD_ok h
      obtain ⟨n7, h⟩ := gD_ok h
      obtain ⟨n8, h⟩ := gD_ok h
      refine at_leaf (ls2 := [(102, .ref r0), (110, .ref r1), (0, .int x2), (0, .int x3), (0, .int a4), (0, .int a5), (0, dV), (0, dV), (0, dV)]) h3.1 ⟨Or.inr ⟨_, (h3.2 0 rfl).trans rfl⟩, Or.inr ⟨_, (h3.2 1 rfl).trans rfl⟩, Or.inr ⟨_, (h3.2 2 rfl).trans rfl⟩, Or.inr ⟨_, (h3.2 3 rfl).trans rfl⟩, Or.inr n4, Or.inr n5, Or.inl ⟨rfl, n6⟩, Or.inl ⟨rfl, n7⟩, Or.inl ⟨rfl, n8⟩, trivial⟩ ?_
      exact s_Law_tells_11 hcs r0 r1 x2 x3 a4 a5 t0 t1 q0 _ _ _ h hq
    cases h
  · intro v I2 _ h
    split at h
    · cases h; exact q0 _ _ hq
    · cases h
theorem w_Law_tells {d : Nat} (hcs : AllS L X d (cs_Law_tells F_Law_untold F_Law_worth F_Table_at)) : Snd L X (d + 1) 47 4 (W_Law_tells F_Law_tells) := by
  refine ⟨_, z_Law_tells, rfl, fun β args k I r hty hlen h => ?_⟩
  unfold W_Law_tells at h
  split at h
  · rename_i t0 a0 t1 a1 u2 a2 u3 a3
    obtain ⟨hb0, h⟩ := mB_ok h
    have e0 := Nat.eq_of_beq_eq_true hb0
    have g0 : okB 102 a0 = true := e0 ▸ hty.1
    obtain ⟨hb1, h⟩ := mB_ok h
    have e1 := Nat.eq_of_beq_eq_true hb1
    have g1 : okB 110 a1 = true := e1 ▸ hty.2.1
    obtain ⟨v, I1, h1, h2⟩ := bn_some h
    refine ⟨gf_obj (c := 2) (by decide) g0, rfl, some (0, .int v), I1, trivial, ?_, h2⟩
    exact s_Law_tells_0 hcs a0 a1 a2 a3 g0 g1 (Q := fun w I => w = v ∧ I = I1) (fun w I q => by obtain ⟨rfl, rfl⟩ := q; rfl) I v I1 h1 ⟨rfl, rfl⟩
  · cases h
theorem S_Law_tells {d : Nat} (hd : 5 ≤ d) : Snd L X d 47 4 (W_Law_tells F_Law_tells) := by
  obtain ⟨e, rfl⟩ : ∃ e, d = e + 1 := ⟨d - 1, by omega⟩
  exact w_Law_tells ⟨S_Law_untold (by omega), S_Law_worth (by omega), S_Table_at (by omega), trivial⟩
set_option maxRecDepth 100000 in
theorem z_World_aliasesOf : pT[58]? = some (q_World_aliasesOf, 3, 5, 1, 10) := rfl
def W_World_aliasesOf (F : Nat → Int32 → Int32 → M Int32) : CSem := fun _ args k => match args with
  | [(t0, .ref a0), (_, .int a1), (_, .int a2)] => mB (Nat.beq t0 110) <| bn (F a0 a1 a2) fun v => k (some (0, .int v))
  | _ => fl
def cs_World_aliasesOf : List (Nat × Nat × CSem) := []
def B_World_aliasesOf_5 (r0 : Nat) (x1 : Int32) (x2 : Int32) (y : Int32 × Int32) : M ((Int32 × Int32) ⊕ (Int32)) :=
  bn (rd r0 8) fun v1 =>
  (if y.2 < v1 then
    bn (ld 18 (r0 + 4) y.2) fun v2 =>
    (if v2 = x1 then
      (if x2 = 0 then
        rt (.inl ((y.1 ||| ((1 : Int32) <<< (y.2 &&& 31))), (y.2 + (1 : Int32))))
      else
        bn (ld 18 (r0 + 8) y.2) fun v3 =>
        (if v3 = 0 then
          rt (.inl (y.1, (y.2 + (1 : Int32))))
        else
          rt (.inl ((y.1 ||| ((1 : Int32) <<< (y.2 &&& 31))), (y.2 + (1 : Int32))))))
    else
      rt (.inl (y.1, (y.2 + (1 : Int32)))))
  else
    rt (.inr y.1))
set_option maxRecDepth 4000 in
theorem e_b_World_aliasesOf_5 (r0 : Nat) (x1 : Int32) (x2 : Int32) (y : Int32 × Int32) : wf (β := (Int32 × Int32) ⊕ (Int32)) L X q_World_aliasesOf 1 cs_World_aliasesOf [3, 4] [5] (fun pc ls st => mC (Nat.beq pc 5) (mN st <| gI ls 3 fun a3 => gI ls 4 fun a4 => rt (.inl (a3, a4))) (fl)) (fun v => match v with | some (_, .int x) => rt (.inr x) | _ => fl) 36 5 [(110, .ref r0), (0, .int x1), (0, .int x2), (0, .int y.1), (0, .int y.2)] [] = (bn (rd r0 8) fun v1 =>
  (if y.2 < v1 then
    bn (ld 18 (r0 + 4) y.2) fun v2 =>
    (if v2 = x1 then
      (if x2 = 0 then
        rt (.inl ((y.1 ||| ((1 : Int32) <<< (y.2 &&& 31))), (y.2 + (1 : Int32))))
      else
        bn (ld 18 (r0 + 8) y.2) fun v3 =>
        (if v3 = 0 then
          rt (.inl (y.1, (y.2 + (1 : Int32))))
        else
          rt (.inl ((y.1 ||| ((1 : Int32) <<< (y.2 &&& 31))), (y.2 + (1 : Int32))))))
    else
      rt (.inl (y.1, (y.2 + (1 : Int32)))))
  else
    rt (.inr y.1))) := rfl
theorem b_World_aliasesOf_5 {d : Nat} (hcs : AllS L X d cs_World_aliasesOf) (r0 : Nat) (x1 : Int32) (x2 : Int32) (t0 : okB 110 r0 = true) {o : Option Value × PH} {Q : ((Int32 × Int32) ⊕ (Int32)) → MI → Prop} (qb : ∀ y I, Q (.inl y) I → At L X (d + 1) 58 5 [(110, .ref r0), (0, .int x1), (0, .int x2), (0, .int y.1), (0, .int y.2)] [] I o) (qr : ∀ v I, Q (.inr v) I → o = (some (.int v), HH I)) (y : Int32 × Int32) (I : MI) (r : (Int32 × Int32) ⊕ (Int32)) (I1 : MI) (h : B_World_aliasesOf_5 r0 x1 x2 y I = some (r, I1)) (hq : Q r I1) : At L X (d + 1) 58 5 [(110, .ref r0), (0, .int x1), (0, .int x2), (0, .int y.1), (0, .int y.2)] [] I o := by
  refine wf_ok z_World_aliasesOf hcs ?_ ?_ _ _ _ _ _ ⟨t0, trivial, trivial, trivial, trivial, trivial⟩ trivial (unm_refl _ _) ((congrFun (e_b_World_aliasesOf_5 (L := L) (X := X) r0 x1 x2 y) I).trans h)
  · intro pc ls st I2 h1 h2 h3 h
    rcases mC_ok h with ⟨hb, h⟩ | ⟨_, h⟩
    · have e := Nat.eq_of_beq_eq_true hb
      subst e
      obtain ⟨hst, h⟩ := mN_ok h
      subst hst
      obtain ⟨a3, n3, h⟩ := gI_ok h
      obtain ⟨a4, n4, h⟩ := gI_ok h
      refine at_leaf (ls2 := [(110, .ref r0), (0, .int x1), (0, .int x2), (0, .int a3), (0, .int a4)]) h3.1 ⟨Or.inr ⟨_, (h3.2 0 rfl).trans rfl⟩, Or.inr ⟨_, (h3.2 1 rfl).trans rfl⟩, Or.inr ⟨_, (h3.2 2 rfl).trans rfl⟩, Or.inr n3, Or.inr n4, trivial⟩ ?_
      cases h; exact qb _ _ hq
    cases h
  · intro v I2 _ h
    split at h
    · cases h; exact qr _ _ hq
    · cases h
def K_World_aliasesOf_5 (r0 : Nat) (x1 : Int32) (x2 : Int32) (x3 : Int32) (x4 : Int32) : M (Int32) :=
  lp (B_World_aliasesOf_5 r0 x1 x2) FU (x3, x4)
theorem s_World_aliasesOf_5 {d : Nat} (hcs : AllS L X d cs_World_aliasesOf) (r0 : Nat) (x1 : Int32) (x2 : Int32) (x3 : Int32) (x4 : Int32) (t0 : okB 110 r0 = true) {o : Option Value × PH} {Q : (Int32) → MI → Prop} (q0 : ∀ v I, Q v I → o = (some (.int v), HH I)) (I : MI) (r : Int32) (I1 : MI) (h : K_World_aliasesOf_5 r0 x1 x2 x3 x4 I = some (r, I1)) (hq : Q r I1) : At L X (d + 1) 58 5 [(110, .ref r0), (0, .int x1), (0, .int x2), (0, .int x3), (0, .int x4)] [] I o := by
  unfold K_World_aliasesOf_5 at h
  have w0 := fun w => at_lp (body := B_World_aliasesOf_5 r0 x1 x2) (P := (fun (y : Int32 × Int32) I => At L X (d + 1) 58 5 [(110, .ref r0), (0, .int x1), (0, .int x2), (0, .int y.1), (0, .int y.2)] [] I o)) (Q := (fun (e : Int32) I => Q e I)) w FU (x3, x4) I r I1 h hq
  refine w0 ?_
  intro y I r I1 h hq
  exact b_World_aliasesOf_5 hcs r0 x1 x2 t0 (Q := SQ (fun (y : Int32 × Int32) I => At L X (d + 1) 58 5 [(110, .ref r0), (0, .int x1), (0, .int x2), (0, .int y.1), (0, .int y.2)] [] I o) (fun (e : Int32) I => Q e I)) (fun _ _ w => w) q0 y I r I1 h hq
def F_World_aliasesOf (r0 : Nat) (x1 : Int32) (x2 : Int32) : M (Int32) :=
  K_World_aliasesOf_5 r0 x1 x2 (0 : Int32) (0 : Int32)
set_option maxRecDepth 4000 in
theorem e_s_World_aliasesOf_0 (k_5 : Nat → Int32 → Int32 → Int32 → Int32 → M (Int32)) (r0 : Nat) (x1 : Int32) (x2 : Int32) : wf (β := Int32) L X q_World_aliasesOf 1 cs_World_aliasesOf [3, 4] [5] (fun pc ls st => mC (Nat.beq pc 5) (mN st <| gI ls 3 fun a3 => gI ls 4 fun a4 => k_5 r0 x1 x2 a3 a4) (fl)) (fun v => match v with | some (_, .int x) => rt x | _ => fl) 36 0 [(110, .ref r0), (0, .int x1), (0, .int x2), (0, dV), (0, dV)] [] = (k_5 r0 x1 x2 (0 : Int32) (0 : Int32)) := rfl
theorem s_World_aliasesOf_0 {d : Nat} (hcs : AllS L X d cs_World_aliasesOf) (r0 : Nat) (x1 : Int32) (x2 : Int32) (t0 : okB 110 r0 = true) {o : Option Value × PH} {Q : (Int32) → MI → Prop} (q0 : ∀ v I, Q v I → o = (some (.int v), HH I)) (I : MI) (r : Int32) (I1 : MI) (h : F_World_aliasesOf r0 x1 x2 I = some (r, I1)) (hq : Q r I1) : At L X (d + 1) 58 0 [(110, .ref r0), (0, .int x1), (0, .int x2), (0, dV), (0, dV)] [] I o := by
  refine wf_ok z_World_aliasesOf hcs ?_ ?_ _ _ _ _ _ ⟨t0, trivial, trivial, trivial, trivial, trivial⟩ trivial (unm_refl _ _) ((congrFun (e_s_World_aliasesOf_0 (L := L) (X := X) K_World_aliasesOf_5 r0 x1 x2) I).trans h)
  · intro pc ls st I2 h1 h2 h3 h
    rcases mC_ok h with ⟨hb, h⟩ | ⟨_, h⟩
    · have e := Nat.eq_of_beq_eq_true hb
      subst e
      obtain ⟨hst, h⟩ := mN_ok h
      subst hst
      obtain ⟨a3, n3, h⟩ := gI_ok h
      obtain ⟨a4, n4, h⟩ := gI_ok h
      refine at_leaf (ls2 := [(110, .ref r0), (0, .int x1), (0, .int x2), (0, .int a3), (0, .int a4)]) h3.1 ⟨Or.inr ⟨_, (h3.2 0 rfl).trans rfl⟩, Or.inr ⟨_, (h3.2 1 rfl).trans rfl⟩, Or.inr ⟨_, (h3.2 2 rfl).trans rfl⟩, Or.inr n3, Or.inr n4, trivial⟩ ?_
      exact s_World_aliasesOf_5 hcs r0 x1 x2 a3 a4 t0 q0 _ _ _ h hq
    cases h
  · intro v I2 _ h
    split at h
    · cases h; exact q0 _ _ hq
    · cases h
theorem w_World_aliasesOf {d : Nat} (hcs : AllS L X d cs_World_aliasesOf) : Snd L X (d + 1) 58 3 (W_World_aliasesOf F_World_aliasesOf) := by
  refine ⟨_, z_World_aliasesOf, rfl, fun β args k I r hty hlen h => ?_⟩
  unfold W_World_aliasesOf at h
  split at h
  · rename_i t0 a0 u1 a1 u2 a2
    obtain ⟨hb0, h⟩ := mB_ok h
    have e0 := Nat.eq_of_beq_eq_true hb0
    have g0 : okB 110 a0 = true := e0 ▸ hty.1
    obtain ⟨v, I1, h1, h2⟩ := bn_some h
    refine ⟨gf_obj (c := 10) (by decide) g0, rfl, some (0, .int v), I1, trivial, ?_, h2⟩
    exact s_World_aliasesOf_0 hcs a0 a1 a2 g0 (Q := fun w I => w = v ∧ I = I1) (fun w I q => by obtain ⟨rfl, rfl⟩ := q; rfl) I v I1 h1 ⟨rfl, rfl⟩
  · cases h
theorem S_World_aliasesOf {d : Nat} (hd : 1 ≤ d) : Snd L X d 58 3 (W_World_aliasesOf F_World_aliasesOf) := by
  obtain ⟨e, rfl⟩ : ∃ e, d = e + 1 := ⟨d - 1, by omega⟩
  exact w_World_aliasesOf trivial
set_option maxRecDepth 100000 in
theorem z_World_meetsItsOwn : pT[57]? = some (q_World_meetsItsOwn, 2, 2, 2, 10) := rfl
def W_World_meetsItsOwn (F : Nat → Int32 → M Int32) : CSem := fun _ args k => match args with
  | [(t0, .ref a0), (_, .int a1)] => mB (Nat.beq t0 110) <| bn (F a0 a1) fun v => k (some (0, .int v))
  | _ => fl
def cs_World_meetsItsOwn (f_World_aliasesOf : Nat → Int32 → Int32 → M Int32) (f_World_outIn : Nat → Int32 → M Int32) : List (Nat × Nat × CSem) := [(58, 3, W_World_aliasesOf f_World_aliasesOf), (52, 2, W_World_outIn f_World_outIn)]
def F_World_meetsItsOwn (r0 : Nat) (x1 : Int32) : M (Int32) :=
  bn (ld 18 (r0 + 7) x1) fun v1 =>
  bn (F_World_outIn r0 v1) fun v2 =>
  bn (ld 18 (r0 + 4) x1) fun v3 =>
  bn (F_World_aliasesOf r0 v3 (1 : Int32)) fun v4 =>
  (if ((v2 &&& v4) &&& (((1 : Int32) <<< (x1 &&& 31)) ^^^ (-1 : Int32))) = 0 then
    bn (gdZ (0 : Int32)) fun _ => rt (0 : Int32)
  else
    bn (gdZ (1 : Int32)) fun _ => rt (1 : Int32))
set_option maxRecDepth 4000 in
theorem e_s_World_meetsItsOwn_0 (f_World_aliasesOf : Nat → Int32 → Int32 → M Int32) (f_World_outIn : Nat → Int32 → M Int32) (r0 : Nat) (x1 : Int32) : wf (β := Int32) L X q_World_meetsItsOwn 2 (cs_World_meetsItsOwn f_World_aliasesOf f_World_outIn) [] [] (fun _ _ _ => fl) (fun v => match v with | some (_, .int x) => rt x | _ => fl) 30 0 [(110, .ref r0), (0, .int x1)] [] = (bn (ld 18 (r0 + 7) x1) fun v1 =>
  bn (f_World_outIn r0 v1) fun v2 =>
  bn (ld 18 (r0 + 4) x1) fun v3 =>
  bn (f_World_aliasesOf r0 v3 (1 : Int32)) fun v4 =>
  (if ((v2 &&& v4) &&& (((1 : Int32) <<< (x1 &&& 31)) ^^^ (-1 : Int32))) = 0 then
    bn (gdZ (0 : Int32)) fun _ => rt (0 : Int32)
  else
    bn (gdZ (1 : Int32)) fun _ => rt (1 : Int32))) := rfl
theorem s_World_meetsItsOwn_0 {d : Nat} (hcs : AllS L X d (cs_World_meetsItsOwn F_World_aliasesOf F_World_outIn)) (r0 : Nat) (x1 : Int32) (t0 : okB 110 r0 = true) {o : Option Value × PH} {Q : (Int32) → MI → Prop} (q0 : ∀ v I, Q v I → o = (some (.int v), HH I)) (I : MI) (r : Int32) (I1 : MI) (h : F_World_meetsItsOwn r0 x1 I = some (r, I1)) (hq : Q r I1) : At L X (d + 1) 57 0 [(110, .ref r0), (0, .int x1)] [] I o := by
  refine wf_ok z_World_meetsItsOwn hcs ?_ ?_ _ _ _ _ _ ⟨t0, trivial, trivial⟩ trivial (unm_refl _ _) ((congrFun (e_s_World_meetsItsOwn_0 (L := L) (X := X) F_World_aliasesOf F_World_outIn r0 x1) I).trans h)
  · intro pc ls st I2 h1 h2 h3 h
    cases h
  · intro v I2 _ h
    split at h
    · cases h; exact q0 _ _ hq
    · cases h
theorem w_World_meetsItsOwn {d : Nat} (hcs : AllS L X d (cs_World_meetsItsOwn F_World_aliasesOf F_World_outIn)) : Snd L X (d + 1) 57 2 (W_World_meetsItsOwn F_World_meetsItsOwn) := by
  refine ⟨_, z_World_meetsItsOwn, rfl, fun β args k I r hty hlen h => ?_⟩
  unfold W_World_meetsItsOwn at h
  split at h
  · rename_i t0 a0 u1 a1
    obtain ⟨hb0, h⟩ := mB_ok h
    have e0 := Nat.eq_of_beq_eq_true hb0
    have g0 : okB 110 a0 = true := e0 ▸ hty.1
    obtain ⟨v, I1, h1, h2⟩ := bn_some h
    refine ⟨gf_obj (c := 10) (by decide) g0, rfl, some (0, .int v), I1, trivial, ?_, h2⟩
    exact s_World_meetsItsOwn_0 hcs a0 a1 g0 (Q := fun w I => w = v ∧ I = I1) (fun w I q => by obtain ⟨rfl, rfl⟩ := q; rfl) I v I1 h1 ⟨rfl, rfl⟩
  · cases h
theorem S_World_meetsItsOwn {d : Nat} (hd : 2 ≤ d) : Snd L X d 57 2 (W_World_meetsItsOwn F_World_meetsItsOwn) := by
  obtain ⟨e, rfl⟩ : ∃ e, d = e + 1 := ⟨d - 1, by omega⟩
  exact w_World_meetsItsOwn ⟨S_World_aliasesOf (by omega), S_World_outIn (by omega), trivial⟩
set_option maxRecDepth 100000 in
theorem z_Hours_beSeen : pT[46]? = some (q_Hours_beSeen, 1, 3, 0, 1) := rfl
def W_Hours_beSeen (F : Nat → M Unit) : CSem := fun _ args k => match args with
  | [(t0, .ref a0)] => mB (Nat.beq t0 101) <| bn (F a0) fun _ => k none
  | _ => fl
def cs_Hours_beSeen (f_Hours_isSeen : Nat → Int32 → M Int32) (f_Hours_note : Nat → Int32 → Int32 → Int32 → M Unit) (f_Law_tells : Nat → Nat → Int32 → Int32 → M Int32) (f_World_meetsItsOwn : Nat → Int32 → M Int32) : List (Nat × Nat × CSem) := [(55, 2, W_Hours_isSeen f_Hours_isSeen), (45, 4, W_Hours_note f_Hours_note), (47, 4, W_Law_tells f_Law_tells), (57, 2, W_World_meetsItsOwn f_World_meetsItsOwn)]
def B_Hours_beSeen_2 (r0 : Nat) (y : Int32) : M ((Int32) ⊕ (Unit)) :=
  bn (rd (hw r0) 8) fun v1 =>
  (if y < v1 then
    bn (ld 18 ((hw r0) + 8) y) fun v2 =>
    (if v2 = 0 then
      rt (.inl (y + (1 : Int32)))
    else
      bn (F_Law_tells 16 (hw r0) y (0 : Int32)) fun v3 =>
      bn (F_Hours_isSeen r0 v3) fun v4 =>
      (if v4 = 0 then
        rt (.inl (y + (1 : Int32)))
      else
        bn (F_World_meetsItsOwn (hw r0) y) fun v5 =>
        bn (ld 18 ((hw r0) + 9) y) fun v6 =>
        (if v5 = 0 then
          bn (sr 18 ((hw r0) + 9) y (if (v6 + (10 : Int32)) < (99 : Int32) then (v6 + (10 : Int32)) else (99 : Int32))) fun _ =>
          (if v5 = 0 then
            bn (ld 18 ((hw r0) + 9) y) fun v7 =>
            bn (F_Hours_note r0 (0 : Int32) y v7) fun _ =>
            rt (.inl (y + (1 : Int32)))
          else
            bn (ld 18 ((hw r0) + 9) y) fun v8 =>
            bn (F_Hours_note r0 (1 : Int32) y v8) fun _ =>
            rt (.inl (y + (1 : Int32))))
        else
          bn (sr 18 ((hw r0) + 9) y (if (v6 + (30 : Int32)) < (99 : Int32) then (v6 + (30 : Int32)) else (99 : Int32))) fun _ =>
          (if v5 = 0 then
            bn (ld 18 ((hw r0) + 9) y) fun v9 =>
            bn (F_Hours_note r0 (0 : Int32) y v9) fun _ =>
            rt (.inl (y + (1 : Int32)))
          else
            bn (ld 18 ((hw r0) + 9) y) fun v10 =>
            bn (F_Hours_note r0 (1 : Int32) y v10) fun _ =>
            rt (.inl (y + (1 : Int32)))))))
  else
    rt (.inr ()))
set_option maxRecDepth 4000 in
theorem e_b_Hours_beSeen_2 (f_Hours_isSeen : Nat → Int32 → M Int32) (f_Hours_note : Nat → Int32 → Int32 → Int32 → M Unit) (f_Law_tells : Nat → Nat → Int32 → Int32 → M Int32) (f_World_meetsItsOwn : Nat → Int32 → M Int32) (r0 : Nat) (y : Int32) : wf (β := (Int32) ⊕ (Unit)) L X q_Hours_beSeen 0 (cs_Hours_beSeen f_Hours_isSeen f_Hours_note f_Law_tells f_World_meetsItsOwn) [1, 2] [2] (fun pc ls st => mC (Nat.beq pc 2) (mN st <| gI ls 1 fun a1 => gD ls 2 <| rt (.inl a1)) (fl)) (fun v => match v with | none => rt (.inr ()) | _ => fl) 69 2 [(101, .ref r0), (0, .int y), (0, dV)] [] = (bn (rd (hw r0) 8) fun v1 =>
  (if y < v1 then
    bn (ld 18 ((hw r0) + 8) y) fun v2 =>
    (if v2 = 0 then
      rt (.inl (y + (1 : Int32)))
    else
      bn (f_Law_tells 16 (hw r0) y (0 : Int32)) fun v3 =>
      bn (f_Hours_isSeen r0 v3) fun v4 =>
      (if v4 = 0 then
        rt (.inl (y + (1 : Int32)))
      else
        bn (f_World_meetsItsOwn (hw r0) y) fun v5 =>
        bn (ld 18 ((hw r0) + 9) y) fun v6 =>
        (if v5 = 0 then
          bn (sr 18 ((hw r0) + 9) y (if (v6 + (10 : Int32)) < (99 : Int32) then (v6 + (10 : Int32)) else (99 : Int32))) fun _ =>
          (if v5 = 0 then
            bn (ld 18 ((hw r0) + 9) y) fun v7 =>
            bn (f_Hours_note r0 (0 : Int32) y v7) fun _ =>
            rt (.inl (y + (1 : Int32)))
          else
            bn (ld 18 ((hw r0) + 9) y) fun v8 =>
            bn (f_Hours_note r0 (1 : Int32) y v8) fun _ =>
            rt (.inl (y + (1 : Int32))))
        else
          bn (sr 18 ((hw r0) + 9) y (if (v6 + (30 : Int32)) < (99 : Int32) then (v6 + (30 : Int32)) else (99 : Int32))) fun _ =>
          (if v5 = 0 then
            bn (ld 18 ((hw r0) + 9) y) fun v9 =>
            bn (f_Hours_note r0 (0 : Int32) y v9) fun _ =>
            rt (.inl (y + (1 : Int32)))
          else
            bn (ld 18 ((hw r0) + 9) y) fun v10 =>
            bn (f_Hours_note r0 (1 : Int32) y v10) fun _ =>
            rt (.inl (y + (1 : Int32)))))))
  else
    rt (.inr ()))) := rfl
theorem b_Hours_beSeen_2 {d : Nat} (hcs : AllS L X d (cs_Hours_beSeen F_Hours_isSeen F_Hours_note F_Law_tells F_World_meetsItsOwn)) (r0 : Nat) (t0 : okB 101 r0 = true) {o : Option Value × PH} {Q : ((Int32) ⊕ (Unit)) → MI → Prop} (qb : ∀ y I, Q (.inl y) I → At L X (d + 1) 46 2 [(101, .ref r0), (0, .int y), (0, dV)] [] I o) (qr : ∀ v I, Q (.inr v) I → o = (none, HH I)) (y : Int32) (I : MI) (r : (Int32) ⊕ (Unit)) (I1 : MI) (h : B_Hours_beSeen_2 r0 y I = some (r, I1)) (hq : Q r I1) : At L X (d + 1) 46 2 [(101, .ref r0), (0, .int y), (0, dV)] [] I o := by
  refine wf_ok z_Hours_beSeen hcs ?_ ?_ _ _ _ _ _ ⟨t0, trivial, trivial, trivial⟩ trivial (unm_refl _ _) ((congrFun (e_b_Hours_beSeen_2 (L := L) (X := X) F_Hours_isSeen F_Hours_note F_Law_tells F_World_meetsItsOwn r0 y) I).trans h)
  · intro pc ls st I2 h1 h2 h3 h
    rcases mC_ok h with ⟨hb, h⟩ | ⟨_, h⟩
    · have e := Nat.eq_of_beq_eq_true hb
      subst e
      obtain ⟨hst, h⟩ := mN_ok h
      subst hst
      obtain ⟨a1, n1, h⟩ := gI_ok h
      obtain ⟨n2, h⟩ := gD_ok h
      refine at_leaf (ls2 := [(101, .ref r0), (0, .int a1), (0, dV)]) h3.1 ⟨Or.inr ⟨_, (h3.2 0 rfl).trans rfl⟩, Or.inr n1, Or.inl ⟨rfl, n2⟩, trivial⟩ ?_
      cases h; exact qb _ _ hq
    cases h
  · intro v I2 _ h
    split at h
    · cases h; exact qr _ _ hq
    · cases h
def K_Hours_beSeen_2 (r0 : Nat) (x1 : Int32) : M (Unit) :=
  lp (B_Hours_beSeen_2 r0) FU x1
theorem s_Hours_beSeen_2 {d : Nat} (hcs : AllS L X d (cs_Hours_beSeen F_Hours_isSeen F_Hours_note F_Law_tells F_World_meetsItsOwn)) (r0 : Nat) (x1 : Int32) (t0 : okB 101 r0 = true) {o : Option Value × PH} {Q : (Unit) → MI → Prop} (q0 : ∀ v I, Q v I → o = (none, HH I)) (I : MI) (r : Unit) (I1 : MI) (h : K_Hours_beSeen_2 r0 x1 I = some (r, I1)) (hq : Q r I1) : At L X (d + 1) 46 2 [(101, .ref r0), (0, .int x1), (0, dV)] [] I o := by
  unfold K_Hours_beSeen_2 at h
  have w0 := fun w => at_lp (body := B_Hours_beSeen_2 r0) (P := (fun (y : Int32) I => At L X (d + 1) 46 2 [(101, .ref r0), (0, .int y), (0, dV)] [] I o)) (Q := (fun (e : Unit) I => Q e I)) w FU x1 I r I1 h hq
  refine w0 ?_
  intro y I r I1 h hq
  exact b_Hours_beSeen_2 hcs r0 t0 (Q := SQ (fun (y : Int32) I => At L X (d + 1) 46 2 [(101, .ref r0), (0, .int y), (0, dV)] [] I o) (fun (e : Unit) I => Q e I)) (fun _ _ w => w) q0 y I r I1 h hq
def F_Hours_beSeen (r0 : Nat) : M (Unit) :=
  K_Hours_beSeen_2 r0 (0 : Int32)
set_option maxRecDepth 4000 in
theorem e_s_Hours_beSeen_0 (f_Hours_isSeen : Nat → Int32 → M Int32) (f_Hours_note : Nat → Int32 → Int32 → Int32 → M Unit) (f_Law_tells : Nat → Nat → Int32 → Int32 → M Int32) (f_World_meetsItsOwn : Nat → Int32 → M Int32) (k_2 : Nat → Int32 → M (Unit)) (r0 : Nat) : wf (β := Unit) L X q_Hours_beSeen 0 (cs_Hours_beSeen f_Hours_isSeen f_Hours_note f_Law_tells f_World_meetsItsOwn) [1] [2] (fun pc ls st => mC (Nat.beq pc 2) (mN st <| gI ls 1 fun a1 => gD ls 2 <| k_2 r0 a1) (fl)) (fun v => match v with | none => rt () | _ => fl) 69 0 [(101, .ref r0), (0, dV), (0, dV)] [] = (k_2 r0 (0 : Int32)) := rfl
theorem s_Hours_beSeen_0 {d : Nat} (hcs : AllS L X d (cs_Hours_beSeen F_Hours_isSeen F_Hours_note F_Law_tells F_World_meetsItsOwn)) (r0 : Nat) (t0 : okB 101 r0 = true) {o : Option Value × PH} {Q : (Unit) → MI → Prop} (q0 : ∀ v I, Q v I → o = (none, HH I)) (I : MI) (r : Unit) (I1 : MI) (h : F_Hours_beSeen r0 I = some (r, I1)) (hq : Q r I1) : At L X (d + 1) 46 0 [(101, .ref r0), (0, dV), (0, dV)] [] I o := by
  refine wf_ok z_Hours_beSeen hcs ?_ ?_ _ _ _ _ _ ⟨t0, trivial, trivial, trivial⟩ trivial (unm_refl _ _) ((congrFun (e_s_Hours_beSeen_0 (L := L) (X := X) F_Hours_isSeen F_Hours_note F_Law_tells F_World_meetsItsOwn K_Hours_beSeen_2 r0) I).trans h)
  · intro pc ls st I2 h1 h2 h3 h
    rcases mC_ok h with ⟨hb, h⟩ | ⟨_, h⟩
    · have e := Nat.eq_of_beq_eq_true hb
      subst e
      obtain ⟨hst, h⟩ := mN_ok h
      subst hst
      obtain ⟨a1, n1, h⟩ := gI_ok h
      obtain ⟨n2, h⟩ := gD_ok h
      refine at_leaf (ls2 := [(101, .ref r0), (0, .int a1), (0, dV)]) h3.1 ⟨Or.inr ⟨_, (h3.2 0 rfl).trans rfl⟩, Or.inr n1, Or.inl ⟨rfl, n2⟩, trivial⟩ ?_
      exact s_Hours_beSeen_2 hcs r0 a1 t0 q0 _ _ _ h hq
    cases h
  · intro v I2 _ h
    split at h
    · cases h; exact q0 _ _ hq
    · cases h
theorem w_Hours_beSeen {d : Nat} (hcs : AllS L X d (cs_Hours_beSeen F_Hours_isSeen F_Hours_note F_Law_tells F_World_meetsItsOwn)) : Snd L X (d + 1) 46 1 (W_Hours_beSeen F_Hours_beSeen) := by
  refine ⟨_, z_Hours_beSeen, rfl, fun β args k I r hty hlen h => ?_⟩
  unfold W_Hours_beSeen at h
  split at h
  · rename_i t0 a0
    obtain ⟨hb0, h⟩ := mB_ok h
    have e0 := Nat.eq_of_beq_eq_true hb0
    have g0 : okB 101 a0 = true := e0 ▸ hty.1
    obtain ⟨v, I1, h1, h2⟩ := bn_some h
    refine ⟨gf_obj (c := 1) (by decide) g0, rfl, none, I1, trivial, ?_, h2⟩
    exact s_Hours_beSeen_0 hcs a0 g0 (Q := fun w I => w = v ∧ I = I1) (fun w I q => by obtain ⟨rfl, rfl⟩ := q; rfl) I v I1 h1 ⟨rfl, rfl⟩
  · cases h
theorem S_Hours_beSeen {d : Nat} (hd : 6 ≤ d) : Snd L X d 46 1 (W_Hours_beSeen F_Hours_beSeen) := by
  obtain ⟨e, rfl⟩ : ∃ e, d = e + 1 := ⟨d - 1, by omega⟩
  exact w_Hours_beSeen ⟨S_Hours_isSeen (by omega), S_Hours_note (by omega), S_Law_tells (by omega), S_World_meetsItsOwn (by omega), trivial⟩
set_option maxRecDepth 100000 in
theorem z_World_charge : pT[44]? = some (q_World_charge, 3, 4, 0, 10) := rfl
def W_World_charge (F : Nat → Int32 → Int32 → M Unit) : CSem := fun _ args k => match args with
  | [(t0, .ref a0), (_, .int a1), (_, .int a2)] => mB (Nat.beq t0 110) <| bn (F a0 a1 a2) fun _ => k none
  | _ => fl
def cs_World_charge : List (Nat × Nat × CSem) := []
def F_World_charge (r0 : Nat) (x1 : Int32) (x2 : Int32) : M (Unit) :=
  bn (ld 6 (r0 + 3) x1) fun v1 =>
  bn (ld 6 (r0 + 3) x1) fun v2 =>
  bn (sr 6 (r0 + 3) x1 (v2 - (if x2 < v1 then x2 else v1))) fun _ =>
  bn (rd r0 1) fun v3 =>
  bn (wr r0 1 (v3 + (x2 - (if x2 < v1 then x2 else v1)))) fun _ =>
  rt ()
set_option maxRecDepth 4000 in
theorem e_s_World_charge_0 (r0 : Nat) (x1 : Int32) (x2 : Int32) : wf (β := Unit) L X q_World_charge 0 cs_World_charge [3] [] (fun _ _ _ => fl) (fun v => match v with | none => rt () | _ => fl) 29 0 [(110, .ref r0), (0, .int x1), (0, .int x2), (0, dV)] [] = (bn (ld 6 (r0 + 3) x1) fun v1 =>
  bn (ld 6 (r0 + 3) x1) fun v2 =>
  bn (sr 6 (r0 + 3) x1 (v2 - (if x2 < v1 then x2 else v1))) fun _ =>
  bn (rd r0 1) fun v3 =>
  bn (wr r0 1 (v3 + (x2 - (if x2 < v1 then x2 else v1)))) fun _ =>
  rt ()) := rfl
theorem s_World_charge_0 {d : Nat} (hcs : AllS L X d cs_World_charge) (r0 : Nat) (x1 : Int32) (x2 : Int32) (t0 : okB 110 r0 = true) {o : Option Value × PH} {Q : (Unit) → MI → Prop} (q0 : ∀ v I, Q v I → o = (none, HH I)) (I : MI) (r : Unit) (I1 : MI) (h : F_World_charge r0 x1 x2 I = some (r, I1)) (hq : Q r I1) : At L X (d + 1) 44 0 [(110, .ref r0), (0, .int x1), (0, .int x2), (0, dV)] [] I o := by
  refine wf_ok z_World_charge hcs ?_ ?_ _ _ _ _ _ ⟨t0, trivial, trivial, trivial, trivial⟩ trivial (unm_refl _ _) ((congrFun (e_s_World_charge_0 (L := L) (X := X) r0 x1 x2) I).trans h)
  · intro pc ls st I2 h1 h2 h3 h
    cases h
  · intro v I2 _ h
    split at h
    · cases h; exact q0 _ _ hq
    · cases h
theorem w_World_charge {d : Nat} (hcs : AllS L X d cs_World_charge) : Snd L X (d + 1) 44 3 (W_World_charge F_World_charge) := by
  refine ⟨_, z_World_charge, rfl, fun β args k I r hty hlen h => ?_⟩
  unfold W_World_charge at h
  split at h
  · rename_i t0 a0 u1 a1 u2 a2
    obtain ⟨hb0, h⟩ := mB_ok h
    have e0 := Nat.eq_of_beq_eq_true hb0
    have g0 : okB 110 a0 = true := e0 ▸ hty.1
    obtain ⟨v, I1, h1, h2⟩ := bn_some h
    refine ⟨gf_obj (c := 10) (by decide) g0, rfl, none, I1, trivial, ?_, h2⟩
    exact s_World_charge_0 hcs a0 a1 a2 g0 (Q := fun w I => w = v ∧ I = I1) (fun w I q => by obtain ⟨rfl, rfl⟩ := q; rfl) I v I1 h1 ⟨rfl, rfl⟩
  · cases h
theorem S_World_charge {d : Nat} (hd : 1 ≤ d) : Snd L X d 44 3 (W_World_charge F_World_charge) := by
  obtain ⟨e, rfl⟩ : ∃ e, d = e + 1 := ⟨d - 1, by omega⟩
  exact w_World_charge trivial
set_option maxRecDepth 100000 in
theorem z_World_give : pT[38]? = some (q_World_give, 3, 3, 0, 10) := rfl
def W_World_give (F : Nat → Int32 → Int32 → M Unit) : CSem := fun _ args k => match args with
  | [(t0, .ref a0), (_, .int a1), (_, .int a2)] => mB (Nat.beq t0 110) <| bn (F a0 a1 a2) fun _ => k none
  | _ => fl
def cs_World_give : List (Nat × Nat × CSem) := []
def F_World_give (r0 : Nat) (x1 : Int32) (x2 : Int32) : M (Unit) :=
  bn (ld 6 (r0 + 3) x1) fun v1 =>
  bn (sr 6 (r0 + 3) x1 (if (v1 + x2) < (9999 : Int32) then (v1 + x2) else (9999 : Int32))) fun _ =>
  rt ()
set_option maxRecDepth 4000 in
theorem e_s_World_give_0 (r0 : Nat) (x1 : Int32) (x2 : Int32) : wf (β := Unit) L X q_World_give 0 cs_World_give [] [] (fun _ _ _ => fl) (fun v => match v with | none => rt () | _ => fl) 18 0 [(110, .ref r0), (0, .int x1), (0, .int x2)] [] = (bn (ld 6 (r0 + 3) x1) fun v1 =>
  bn (sr 6 (r0 + 3) x1 (if (v1 + x2) < (9999 : Int32) then (v1 + x2) else (9999 : Int32))) fun _ =>
  rt ()) := rfl
theorem s_World_give_0 {d : Nat} (hcs : AllS L X d cs_World_give) (r0 : Nat) (x1 : Int32) (x2 : Int32) (t0 : okB 110 r0 = true) {o : Option Value × PH} {Q : (Unit) → MI → Prop} (q0 : ∀ v I, Q v I → o = (none, HH I)) (I : MI) (r : Unit) (I1 : MI) (h : F_World_give r0 x1 x2 I = some (r, I1)) (hq : Q r I1) : At L X (d + 1) 38 0 [(110, .ref r0), (0, .int x1), (0, .int x2)] [] I o := by
  refine wf_ok z_World_give hcs ?_ ?_ _ _ _ _ _ ⟨t0, trivial, trivial, trivial⟩ trivial (unm_refl _ _) ((congrFun (e_s_World_give_0 (L := L) (X := X) r0 x1 x2) I).trans h)
  · intro pc ls st I2 h1 h2 h3 h
    cases h
  · intro v I2 _ h
    split at h
    · cases h; exact q0 _ _ hq
    · cases h
theorem w_World_give {d : Nat} (hcs : AllS L X d cs_World_give) : Snd L X (d + 1) 38 3 (W_World_give F_World_give) := by
  refine ⟨_, z_World_give, rfl, fun β args k I r hty hlen h => ?_⟩
  unfold W_World_give at h
  split at h
  · rename_i t0 a0 u1 a1 u2 a2
    obtain ⟨hb0, h⟩ := mB_ok h
    have e0 := Nat.eq_of_beq_eq_true hb0
    have g0 : okB 110 a0 = true := e0 ▸ hty.1
    obtain ⟨v, I1, h1, h2⟩ := bn_some h
    refine ⟨gf_obj (c := 10) (by decide) g0, rfl, none, I1, trivial, ?_, h2⟩
    exact s_World_give_0 hcs a0 a1 a2 g0 (Q := fun w I => w = v ∧ I = I1) (fun w I q => by obtain ⟨rfl, rfl⟩ := q; rfl) I v I1 h1 ⟨rfl, rfl⟩
  · cases h
theorem S_World_give {d : Nat} (hd : 1 ≤ d) : Snd L X d 38 3 (W_World_give F_World_give) := by
  obtain ⟨e, rfl⟩ : ∃ e, d = e + 1 := ⟨d - 1, by omega⟩
  exact w_World_give trivial
set_option maxRecDepth 100000 in
theorem z_Hours_earn : pT[59]? = some (q_Hours_earn, 1, 4, 0, 1) := rfl
def W_Hours_earn (F : Nat → M Unit) : CSem := fun _ args k => match args with
  | [(t0, .ref a0)] => mB (Nat.beq t0 101) <| bn (F a0) fun _ => k none
  | _ => fl
def cs_Hours_earn (f_Law_tells : Nat → Nat → Int32 → Int32 → M Int32) (f_World_charge : Nat → Int32 → Int32 → M Unit) (f_World_give : Nat → Int32 → Int32 → M Unit) : List (Nat × Nat × CSem) := [(47, 4, W_Law_tells f_Law_tells), (44, 3, W_World_charge f_World_charge), (38, 3, W_World_give f_World_give)]
def B_Hours_earn_13 (r0 : Nat) (y : Int32) : M ((Int32) ⊕ (Unit)) :=
  bn (rd (hw r0) 8) fun v1 =>
  (if y < v1 then
    bn (ld 18 ((hw r0) + 8) y) fun v2 =>
    (if v2 = 0 then
      rt (.inl (y + (1 : Int32)))
    else
      bn (ld 18 ((hw r0) + 4) y) fun v3 =>
      bn (F_Law_tells 16 (hw r0) y (2 : Int32)) fun v4 =>
      bn (F_World_give (hw r0) v3 v4) fun _ =>
      bn (F_Law_tells 16 (hw r0) y (1 : Int32)) fun v5 =>
      bn (F_World_charge (hw r0) v3 v5) fun _ =>
      rt (.inl (y + (1 : Int32))))
  else
    rt (.inr ()))
set_option maxRecDepth 4000 in
theorem e_b_Hours_earn_13 (f_Law_tells : Nat → Nat → Int32 → Int32 → M Int32) (f_World_charge : Nat → Int32 → Int32 → M Unit) (f_World_give : Nat → Int32 → Int32 → M Unit) (r0 : Nat) (y : Int32) : wf (β := (Int32) ⊕ (Unit)) L X q_Hours_earn 0 (cs_Hours_earn f_Law_tells f_World_charge f_World_give) [2, 3] [13] (fun pc ls st => mC (Nat.beq pc 13) (mN st <| gI ls 2 fun a2 => gD ls 3 <| rt (.inl a2)) (fl)) (fun v => match v with | none => rt (.inr ()) | _ => fl) 52 13 [(101, .ref r0), (102, .ref 16), (0, .int y), (0, dV)] [] = (bn (rd (hw r0) 8) fun v1 =>
  (if y < v1 then
    bn (ld 18 ((hw r0) + 8) y) fun v2 =>
    (if v2 = 0 then
      rt (.inl (y + (1 : Int32)))
    else
      bn (ld 18 ((hw r0) + 4) y) fun v3 =>
      bn (f_Law_tells 16 (hw r0) y (2 : Int32)) fun v4 =>
      bn (f_World_give (hw r0) v3 v4) fun _ =>
      bn (f_Law_tells 16 (hw r0) y (1 : Int32)) fun v5 =>
      bn (f_World_charge (hw r0) v3 v5) fun _ =>
      rt (.inl (y + (1 : Int32))))
  else
    rt (.inr ()))) := rfl
theorem b_Hours_earn_13 {d : Nat} (hcs : AllS L X d (cs_Hours_earn F_Law_tells F_World_charge F_World_give)) (r0 : Nat) (t0 : okB 101 r0 = true) {o : Option Value × PH} {Q : ((Int32) ⊕ (Unit)) → MI → Prop} (qb : ∀ y I, Q (.inl y) I → At L X (d + 1) 59 13 [(101, .ref r0), (102, .ref 16), (0, .int y), (0, dV)] [] I o) (qr : ∀ v I, Q (.inr v) I → o = (none, HH I)) (y : Int32) (I : MI) (r : (Int32) ⊕ (Unit)) (I1 : MI) (h : B_Hours_earn_13 r0 y I = some (r, I1)) (hq : Q r I1) : At L X (d + 1) 59 13 [(101, .ref r0), (102, .ref 16), (0, .int y), (0, dV)] [] I o := by
  refine wf_ok z_Hours_earn hcs ?_ ?_ _ _ _ _ _ ⟨t0, rfl, trivial, trivial, trivial⟩ trivial (unm_refl _ _) ((congrFun (e_b_Hours_earn_13 (L := L) (X := X) F_Law_tells F_World_charge F_World_give r0 y) I).trans h)
  · intro pc ls st I2 h1 h2 h3 h
    rcases mC_ok h with ⟨hb, h⟩ | ⟨_, h⟩
    · have e := Nat.eq_of_beq_eq_true hb
      subst e
      obtain ⟨hst, h⟩ := mN_ok h
      subst hst
      obtain ⟨a2, n2, h⟩ := gI_ok h
      obtain ⟨n3, h⟩ := gD_ok h
      refine at_leaf (ls2 := [(101, .ref r0), (102, .ref 16), (0, .int a2), (0, dV)]) h3.1 ⟨Or.inr ⟨_, (h3.2 0 rfl).trans rfl⟩, Or.inr ⟨_, (h3.2 1 rfl).trans rfl⟩, Or.inr n2, Or.inl ⟨rfl, n3⟩, trivial⟩ ?_
      cases h; exact qb _ _ hq
    cases h
  · intro v I2 _ h
    split at h
    · cases h; exact qr _ _ hq
    · cases h
def K_Hours_earn_13 (r0 : Nat) (x2 : Int32) : M (Unit) :=
  lp (B_Hours_earn_13 r0) FU x2
theorem s_Hours_earn_13 {d : Nat} (hcs : AllS L X d (cs_Hours_earn F_Law_tells F_World_charge F_World_give)) (r0 : Nat) (x2 : Int32) (t0 : okB 101 r0 = true) {o : Option Value × PH} {Q : (Unit) → MI → Prop} (q0 : ∀ v I, Q v I → o = (none, HH I)) (I : MI) (r : Unit) (I1 : MI) (h : K_Hours_earn_13 r0 x2 I = some (r, I1)) (hq : Q r I1) : At L X (d + 1) 59 13 [(101, .ref r0), (102, .ref 16), (0, .int x2), (0, dV)] [] I o := by
  unfold K_Hours_earn_13 at h
  have w0 := fun w => at_lp (body := B_Hours_earn_13 r0) (P := (fun (y : Int32) I => At L X (d + 1) 59 13 [(101, .ref r0), (102, .ref 16), (0, .int y), (0, dV)] [] I o)) (Q := (fun (e : Unit) I => Q e I)) w FU x2 I r I1 h hq
  refine w0 ?_
  intro y I r I1 h hq
  exact b_Hours_earn_13 hcs r0 t0 (Q := SQ (fun (y : Int32) I => At L X (d + 1) 59 13 [(101, .ref r0), (102, .ref 16), (0, .int y), (0, dV)] [] I o) (fun (e : Unit) I => Q e I)) (fun _ _ w => w) q0 y I r I1 h hq
def F_Hours_earn (r0 : Nat) : M (Unit) :=
  K_Hours_earn_13 r0 (0 : Int32)
set_option maxRecDepth 4000 in
theorem e_s_Hours_earn_0 (f_Law_tells : Nat → Nat → Int32 → Int32 → M Int32) (f_World_charge : Nat → Int32 → Int32 → M Unit) (f_World_give : Nat → Int32 → Int32 → M Unit) (k_13 : Nat → Int32 → M (Unit)) (r0 : Nat) : wf (β := Unit) L X q_Hours_earn 0 (cs_Hours_earn f_Law_tells f_World_charge f_World_give) [1, 2] [13] (fun pc ls st => mC (Nat.beq pc 13) (mN st <| gC ls 1 102 16 <| gI ls 2 fun a2 => gD ls 3 <| k_13 r0 a2) (fl)) (fun v => match v with | none => rt () | _ => fl) 52 0 [(101, .ref r0), (0, dV), (0, dV), (0, dV)] [] = (k_13 r0 (0 : Int32)) := rfl
theorem s_Hours_earn_0 {d : Nat} (hcs : AllS L X d (cs_Hours_earn F_Law_tells F_World_charge F_World_give)) (r0 : Nat) (t0 : okB 101 r0 = true) {o : Option Value × PH} {Q : (Unit) → MI → Prop} (q0 : ∀ v I, Q v I → o = (none, HH I)) (I : MI) (r : Unit) (I1 : MI) (h : F_Hours_earn r0 I = some (r, I1)) (hq : Q r I1) : At L X (d + 1) 59 0 [(101, .ref r0), (0, dV), (0, dV), (0, dV)] [] I o := by
  refine wf_ok z_Hours_earn hcs ?_ ?_ _ _ _ _ _ ⟨t0, trivial, trivial, trivial, trivial⟩ trivial (unm_refl _ _) ((congrFun (e_s_Hours_earn_0 (L := L) (X := X) F_Law_tells F_World_charge F_World_give K_Hours_earn_13 r0) I).trans h)
  · intro pc ls st I2 h1 h2 h3 h
    rcases mC_ok h with ⟨hb, h⟩ | ⟨_, h⟩
    · have e := Nat.eq_of_beq_eq_true hb
      subst e
      obtain ⟨hst, h⟩ := mN_ok h
      subst hst
      obtain ⟨n1, h⟩ := gC_ok h
      obtain ⟨a2, n2, h⟩ := gI_ok h
      obtain ⟨n3, h⟩ := gD_ok h
      refine at_leaf (ls2 := [(101, .ref r0), (102, .ref 16), (0, .int a2), (0, dV)]) h3.1 ⟨Or.inr ⟨_, (h3.2 0 rfl).trans rfl⟩, Or.inr n1, Or.inr n2, Or.inl ⟨rfl, n3⟩, trivial⟩ ?_
      exact s_Hours_earn_13 hcs r0 a2 t0 q0 _ _ _ h hq
    cases h
  · intro v I2 _ h
    split at h
    · cases h; exact q0 _ _ hq
    · cases h
theorem w_Hours_earn {d : Nat} (hcs : AllS L X d (cs_Hours_earn F_Law_tells F_World_charge F_World_give)) : Snd L X (d + 1) 59 1 (W_Hours_earn F_Hours_earn) := by
  refine ⟨_, z_Hours_earn, rfl, fun β args k I r hty hlen h => ?_⟩
  unfold W_Hours_earn at h
  split at h
  · rename_i t0 a0
    obtain ⟨hb0, h⟩ := mB_ok h
    have e0 := Nat.eq_of_beq_eq_true hb0
    have g0 : okB 101 a0 = true := e0 ▸ hty.1
    obtain ⟨v, I1, h1, h2⟩ := bn_some h
    refine ⟨gf_obj (c := 1) (by decide) g0, rfl, none, I1, trivial, ?_, h2⟩
    exact s_Hours_earn_0 hcs a0 g0 (Q := fun w I => w = v ∧ I = I1) (fun w I q => by obtain ⟨rfl, rfl⟩ := q; rfl) I v I1 h1 ⟨rfl, rfl⟩
  · cases h
theorem S_Hours_earn {d : Nat} (hd : 6 ≤ d) : Snd L X d 59 1 (W_Hours_earn F_Hours_earn) := by
  obtain ⟨e, rfl⟩ : ∃ e, d = e + 1 := ⟨d - 1, by omega⟩
  exact w_Hours_earn ⟨S_Law_tells (by omega), S_World_charge (by omega), S_World_give (by omega), trivial⟩
set_option maxRecDepth 100000 in
theorem z_Hours_keepLine : pT[37]? = some (q_Hours_keepLine, 4, 4, 0, 1) := rfl
def W_Hours_keepLine (F : Nat → Int32 → Int32 → Int32 → M Unit) : CSem := fun _ args k => match args with
  | [(t0, .ref a0), (_, .int a1), (_, .int a2), (_, .int a3)] => mB (Nat.beq t0 101) <| bn (F a0 a1 a2 a3) fun _ => k none
  | _ => fl
def cs_Hours_keepLine (f_A_within : Int32 → Int32 → Int32 → M Int32) (f_World_give : Nat → Int32 → Int32 → M Unit) (f_World_isAlias : Nat → Int32 → M Int32) (f_World_isPerson : Nat → Int32 → M Int32) (f_World_lieDown : Nat → Int32 → M Unit) (f_World_walkOut : Nat → Int32 → Int32 → M Unit) : List (Nat × Nat × CSem) := [(18, 3, W_A_within f_A_within), (38, 3, W_World_give f_World_give), (26, 2, W_World_isAlias f_World_isAlias), (21, 2, W_World_isPerson f_World_isPerson), (30, 2, W_World_lieDown f_World_lieDown), (29, 3, W_World_walkOut f_World_walkOut)]
def K_Hours_keepLine_99 (r0 : Nat) (x1 : Int32) (x2 : Int32) : M (Unit) :=
  (if x1 = (24 : Int32) then
    bn (F_World_isAlias (hw r0) x2) fun v1 =>
    (if v1 = 0 then
      rt ()
    else
      bn (F_World_lieDown (hw r0) x2) fun _ =>
      rt ())
  else
    rt ())
set_option maxRecDepth 4000 in
theorem e_s_Hours_keepLine_99 (f_A_within : Int32 → Int32 → Int32 → M Int32) (f_World_give : Nat → Int32 → Int32 → M Unit) (f_World_isAlias : Nat → Int32 → M Int32) (f_World_isPerson : Nat → Int32 → M Int32) (f_World_lieDown : Nat → Int32 → M Unit) (f_World_walkOut : Nat → Int32 → Int32 → M Unit) (r0 : Nat) (x1 : Int32) (x2 : Int32) : wf (β := Unit) L X q_Hours_keepLine 0 (cs_Hours_keepLine f_A_within f_World_give f_World_isAlias f_World_isPerson f_World_lieDown f_World_walkOut) [] [41, 70, 99] (fun _ _ _ => fl) (fun v => match v with | none => rt () | _ => fl) 67 99 [(101, .ref r0), (0, .int x1), (0, .int x2), (0, dV)] [] = ((if x1 = (24 : Int32) then
    bn (f_World_isAlias (hw r0) x2) fun v1 =>
    (if v1 = 0 then
      rt ()
    else
      bn (f_World_lieDown (hw r0) x2) fun _ =>
      rt ())
  else
    rt ())) := rfl
theorem s_Hours_keepLine_99 {d : Nat} (hcs : AllS L X d (cs_Hours_keepLine F_A_within F_World_give F_World_isAlias F_World_isPerson F_World_lieDown F_World_walkOut)) (r0 : Nat) (x1 : Int32) (x2 : Int32) (t0 : okB 101 r0 = true) {o : Option Value × PH} {Q : (Unit) → MI → Prop} (q0 : ∀ v I, Q v I → o = (none, HH I)) (I : MI) (r : Unit) (I1 : MI) (h : K_Hours_keepLine_99 r0 x1 x2 I = some (r, I1)) (hq : Q r I1) : At L X (d + 1) 37 99 [(101, .ref r0), (0, .int x1), (0, .int x2), (0, dV)] [] I o := by
  refine wf_ok z_Hours_keepLine hcs ?_ ?_ _ _ _ _ _ ⟨t0, trivial, trivial, trivial, trivial⟩ trivial (unm_refl _ _) ((congrFun (e_s_Hours_keepLine_99 (L := L) (X := X) F_A_within F_World_give F_World_isAlias F_World_isPerson F_World_lieDown F_World_walkOut r0 x1 x2) I).trans h)
  · intro pc ls st I2 h1 h2 h3 h
    cases h
  · intro v I2 _ h
    split at h
    · cases h; exact q0 _ _ hq
    · cases h
def K_Hours_keepLine_70 (r0 : Nat) (x1 : Int32) (x2 : Int32) (x3 : Int32) : M (Unit) :=
  (if x1 = (9 : Int32) then
    bn (F_A_within x2 (0 : Int32) (9 : Int32)) fun v1 =>
    (if v1 = 0 then
      K_Hours_keepLine_99 r0 x1 x2
    else
      bn (sr 10 ((hw r0) + 1) x2 x3) fun _ =>
      rt ())
  else
    K_Hours_keepLine_99 r0 x1 x2)
set_option maxRecDepth 4000 in
theorem e_s_Hours_keepLine_70 (f_A_within : Int32 → Int32 → Int32 → M Int32) (f_World_give : Nat → Int32 → Int32 → M Unit) (f_World_isAlias : Nat → Int32 → M Int32) (f_World_isPerson : Nat → Int32 → M Int32) (f_World_lieDown : Nat → Int32 → M Unit) (f_World_walkOut : Nat → Int32 → Int32 → M Unit) (k_99 : Nat → Int32 → Int32 → M (Unit)) (r0 : Nat) (x1 : Int32) (x2 : Int32) (x3 : Int32) : wf (β := Unit) L X q_Hours_keepLine 0 (cs_Hours_keepLine f_A_within f_World_give f_World_isAlias f_World_isPerson f_World_lieDown f_World_walkOut) [] [41, 70, 99] (fun pc ls st => mC (Nat.beq pc 99) (mN st <| gD ls 3 <| k_99 r0 x1 x2) (fl)) (fun v => match v with | none => rt () | _ => fl) 67 70 [(101, .ref r0), (0, .int x1), (0, .int x2), (0, .int x3)] [] = ((if x1 = (9 : Int32) then
    bn (f_A_within x2 (0 : Int32) (9 : Int32)) fun v1 =>
    (if v1 = 0 then
      k_99 r0 x1 x2
    else
      bn (sr 10 ((hw r0) + 1) x2 x3) fun _ =>
      rt ())
  else
    k_99 r0 x1 x2)) := rfl
theorem s_Hours_keepLine_70 {d : Nat} (hcs : AllS L X d (cs_Hours_keepLine F_A_within F_World_give F_World_isAlias F_World_isPerson F_World_lieDown F_World_walkOut)) (r0 : Nat) (x1 : Int32) (x2 : Int32) (x3 : Int32) (t0 : okB 101 r0 = true) {o : Option Value × PH} {Q : (Unit) → MI → Prop} (q0 : ∀ v I, Q v I → o = (none, HH I)) (I : MI) (r : Unit) (I1 : MI) (h : K_Hours_keepLine_70 r0 x1 x2 x3 I = some (r, I1)) (hq : Q r I1) : At L X (d + 1) 37 70 [(101, .ref r0), (0, .int x1), (0, .int x2), (0, .int x3)] [] I o := by
  refine wf_ok z_Hours_keepLine hcs ?_ ?_ _ _ _ _ _ ⟨t0, trivial, trivial, trivial, trivial⟩ trivial (unm_refl _ _) ((congrFun (e_s_Hours_keepLine_70 (L := L) (X := X) F_A_within F_World_give F_World_isAlias F_World_isPerson F_World_lieDown F_World_walkOut K_Hours_keepLine_99 r0 x1 x2 x3) I).trans h)
  · intro pc ls st I2 h1 h2 h3 h
    rcases mC_ok h with ⟨hb, h⟩ | ⟨_, h⟩
    · have e := Nat.eq_of_beq_eq_true hb
      subst e
      obtain ⟨hst, h⟩ := mN_ok h
      subst hst
      obtain ⟨n3, h⟩ := gD_ok h
      refine at_leaf (ls2 := [(101, .ref r0), (0, .int x1), (0, .int x2), (0, dV)]) h3.1 ⟨Or.inr ⟨_, (h3.2 0 rfl).trans rfl⟩, Or.inr ⟨_, (h3.2 1 rfl).trans rfl⟩, Or.inr ⟨_, (h3.2 2 rfl).trans rfl⟩, Or.inl ⟨rfl, n3⟩, trivial⟩ ?_
      exact s_Hours_keepLine_99 hcs r0 x1 x2 t0 q0 _ _ _ h hq
    cases h
  · intro v I2 _ h
    split at h
    · cases h; exact q0 _ _ hq
    · cases h
def K_Hours_keepLine_41 (r0 : Nat) (x1 : Int32) (x2 : Int32) (x3 : Int32) : M (Unit) :=
  (if x1 = (23 : Int32) then
    bn (F_World_isPerson (hw r0) x2) fun v1 =>
    (if v1 = 0 then
      K_Hours_keepLine_70 r0 x1 x2 x3
    else
      bn (F_World_give (hw r0) x2 x3) fun _ =>
      rt ())
  else
    K_Hours_keepLine_70 r0 x1 x2 x3)
set_option maxRecDepth 4000 in
theorem e_s_Hours_keepLine_41 (f_A_within : Int32 → Int32 → Int32 → M Int32) (f_World_give : Nat → Int32 → Int32 → M Unit) (f_World_isAlias : Nat → Int32 → M Int32) (f_World_isPerson : Nat → Int32 → M Int32) (f_World_lieDown : Nat → Int32 → M Unit) (f_World_walkOut : Nat → Int32 → Int32 → M Unit) (k_70 : Nat → Int32 → Int32 → Int32 → M (Unit)) (r0 : Nat) (x1 : Int32) (x2 : Int32) (x3 : Int32) : wf (β := Unit) L X q_Hours_keepLine 0 (cs_Hours_keepLine f_A_within f_World_give f_World_isAlias f_World_isPerson f_World_lieDown f_World_walkOut) [] [41, 70, 99] (fun pc ls st => mC (Nat.beq pc 70) (mN st <| k_70 r0 x1 x2 x3) (fl)) (fun v => match v with | none => rt () | _ => fl) 67 41 [(101, .ref r0), (0, .int x1), (0, .int x2), (0, .int x3)] [] = ((if x1 = (23 : Int32) then
    bn (f_World_isPerson (hw r0) x2) fun v1 =>
    (if v1 = 0 then
      k_70 r0 x1 x2 x3
    else
      bn (f_World_give (hw r0) x2 x3) fun _ =>
      rt ())
  else
    k_70 r0 x1 x2 x3)) := rfl
theorem s_Hours_keepLine_41 {d : Nat} (hcs : AllS L X d (cs_Hours_keepLine F_A_within F_World_give F_World_isAlias F_World_isPerson F_World_lieDown F_World_walkOut)) (r0 : Nat) (x1 : Int32) (x2 : Int32) (x3 : Int32) (t0 : okB 101 r0 = true) {o : Option Value × PH} {Q : (Unit) → MI → Prop} (q0 : ∀ v I, Q v I → o = (none, HH I)) (I : MI) (r : Unit) (I1 : MI) (h : K_Hours_keepLine_41 r0 x1 x2 x3 I = some (r, I1)) (hq : Q r I1) : At L X (d + 1) 37 41 [(101, .ref r0), (0, .int x1), (0, .int x2), (0, .int x3)] [] I o := by
  refine wf_ok z_Hours_keepLine hcs ?_ ?_ _ _ _ _ _ ⟨t0, trivial, trivial, trivial, trivial⟩ trivial (unm_refl _ _) ((congrFun (e_s_Hours_keepLine_41 (L := L) (X := X) F_A_within F_World_give F_World_isAlias F_World_isPerson F_World_lieDown F_World_walkOut K_Hours_keepLine_70 r0 x1 x2 x3) I).trans h)
  · intro pc ls st I2 h1 h2 h3 h
    rcases mC_ok h with ⟨hb, h⟩ | ⟨_, h⟩
    · have e := Nat.eq_of_beq_eq_true hb
      subst e
      obtain ⟨hst, h⟩ := mN_ok h
      subst hst
      refine at_leaf (ls2 := [(101, .ref r0), (0, .int x1), (0, .int x2), (0, .int x3)]) h3.1 ⟨Or.inr ⟨_, (h3.2 0 rfl).trans rfl⟩, Or.inr ⟨_, (h3.2 1 rfl).trans rfl⟩, Or.inr ⟨_, (h3.2 2 rfl).trans rfl⟩, Or.inr ⟨_, (h3.2 3 rfl).trans rfl⟩, trivial⟩ ?_
      exact s_Hours_keepLine_70 hcs r0 x1 x2 x3 t0 q0 _ _ _ h hq
    cases h
  · intro v I2 _ h
    split at h
    · cases h; exact q0 _ _ hq
    · cases h
def F_Hours_keepLine (r0 : Nat) (x1 : Int32) (x2 : Int32) (x3 : Int32) : M (Unit) :=
  (if x1 = (22 : Int32) then
    bn (F_World_isAlias (hw r0) x2) fun v1 =>
    (if v1 = 0 then
      K_Hours_keepLine_41 r0 x1 x2 x3
    else
      bn (ld 18 ((hw r0) + 10) x2) fun v2 =>
      (if v2 = 0 then
        bn (F_World_walkOut (hw r0) x2 x3) fun _ =>
        rt ()
      else
        K_Hours_keepLine_41 r0 x1 x2 x3))
  else
    K_Hours_keepLine_41 r0 x1 x2 x3)
set_option maxRecDepth 4000 in
theorem e_s_Hours_keepLine_0 (f_A_within : Int32 → Int32 → Int32 → M Int32) (f_World_give : Nat → Int32 → Int32 → M Unit) (f_World_isAlias : Nat → Int32 → M Int32) (f_World_isPerson : Nat → Int32 → M Int32) (f_World_lieDown : Nat → Int32 → M Unit) (f_World_walkOut : Nat → Int32 → Int32 → M Unit) (k_41 : Nat → Int32 → Int32 → Int32 → M (Unit)) (r0 : Nat) (x1 : Int32) (x2 : Int32) (x3 : Int32) : wf (β := Unit) L X q_Hours_keepLine 0 (cs_Hours_keepLine f_A_within f_World_give f_World_isAlias f_World_isPerson f_World_lieDown f_World_walkOut) [] [41, 70, 99] (fun pc ls st => mC (Nat.beq pc 41) (mN st <| k_41 r0 x1 x2 x3) (fl)) (fun v => match v with | none => rt () | _ => fl) 67 0 [(101, .ref r0), (0, .int x1), (0, .int x2), (0, .int x3)] [] = ((if x1 = (22 : Int32) then
    bn (f_World_isAlias (hw r0) x2) fun v1 =>
    (if v1 = 0 then
      k_41 r0 x1 x2 x3
    else
      bn (ld 18 ((hw r0) + 10) x2) fun v2 =>
      (if v2 = 0 then
        bn (f_World_walkOut (hw r0) x2 x3) fun _ =>
        rt ()
      else
        k_41 r0 x1 x2 x3))
  else
    k_41 r0 x1 x2 x3)) := rfl
theorem s_Hours_keepLine_0 {d : Nat} (hcs : AllS L X d (cs_Hours_keepLine F_A_within F_World_give F_World_isAlias F_World_isPerson F_World_lieDown F_World_walkOut)) (r0 : Nat) (x1 : Int32) (x2 : Int32) (x3 : Int32) (t0 : okB 101 r0 = true) {o : Option Value × PH} {Q : (Unit) → MI → Prop} (q0 : ∀ v I, Q v I → o = (none, HH I)) (I : MI) (r : Unit) (I1 : MI) (h : F_Hours_keepLine r0 x1 x2 x3 I = some (r, I1)) (hq : Q r I1) : At L X (d + 1) 37 0 [(101, .ref r0), (0, .int x1), (0, .int x2), (0, .int x3)] [] I o := by
  refine wf_ok z_Hours_keepLine hcs ?_ ?_ _ _ _ _ _ ⟨t0, trivial, trivial, trivial, trivial⟩ trivial (unm_refl _ _) ((congrFun (e_s_Hours_keepLine_0 (L := L) (X := X) F_A_within F_World_give F_World_isAlias F_World_isPerson F_World_lieDown F_World_walkOut K_Hours_keepLine_41 r0 x1 x2 x3) I).trans h)
  · intro pc ls st I2 h1 h2 h3 h
    rcases mC_ok h with ⟨hb, h⟩ | ⟨_, h⟩
    · have e := Nat.eq_of_beq_eq_true hb
      subst e
      obtain ⟨hst, h⟩ := mN_ok h
      subst hst
      refine at_leaf (ls2 := [(101, .ref r0), (0, .int x1), (0, .int x2), (0, .int x3)]) h3.1 ⟨Or.inr ⟨_, (h3.2 0 rfl).trans rfl⟩, Or.inr ⟨_, (h3.2 1 rfl).trans rfl⟩, Or.inr ⟨_, (h3.2 2 rfl).trans rfl⟩, Or.inr ⟨_, (h3.2 3 rfl).trans rfl⟩, trivial⟩ ?_
      exact s_Hours_keepLine_41 hcs r0 x1 x2 x3 t0 q0 _ _ _ h hq
    cases h
  · intro v I2 _ h
    split at h
    · cases h; exact q0 _ _ hq
    · cases h
theorem w_Hours_keepLine {d : Nat} (hcs : AllS L X d (cs_Hours_keepLine F_A_within F_World_give F_World_isAlias F_World_isPerson F_World_lieDown F_World_walkOut)) : Snd L X (d + 1) 37 4 (W_Hours_keepLine F_Hours_keepLine) := by
  refine ⟨_, z_Hours_keepLine, rfl, fun β args k I r hty hlen h => ?_⟩
  unfold W_Hours_keepLine at h
  split at h
  · rename_i t0 a0 u1 a1 u2 a2 u3 a3
    obtain ⟨hb0, h⟩ := mB_ok h
    have e0 := Nat.eq_of_beq_eq_true hb0
    have g0 : okB 101 a0 = true := e0 ▸ hty.1
    obtain ⟨v, I1, h1, h2⟩ := bn_some h
    refine ⟨gf_obj (c := 1) (by decide) g0, rfl, none, I1, trivial, ?_, h2⟩
    exact s_Hours_keepLine_0 hcs a0 a1 a2 a3 g0 (Q := fun w I => w = v ∧ I = I1) (fun w I q => by obtain ⟨rfl, rfl⟩ := q; rfl) I v I1 h1 ⟨rfl, rfl⟩
  · cases h
theorem S_Hours_keepLine {d : Nat} (hd : 2 ≤ d) : Snd L X d 37 4 (W_Hours_keepLine F_Hours_keepLine) := by
  obtain ⟨e, rfl⟩ : ∃ e, d = e + 1 := ⟨d - 1, by omega⟩
  exact w_Hours_keepLine ⟨S_A_within (by omega), S_World_give (by omega), S_World_isAlias (by omega), S_World_isPerson (by omega), S_World_lieDown (by omega), S_World_walkOut (by omega), trivial⟩
end
