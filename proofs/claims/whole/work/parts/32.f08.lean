/-! methods (written by wip/tools/gen_f.py) -/
section
variable {L : Nat} {X : Nat → Int32}
set_option maxRecDepth 100000 in
theorem z_Reader_lawLine : pT[79]? = some (q_Reader_lawLine, 1, 4, 2, 5) := rfl
def W_Reader_lawLine (F : M Int32) : CSem := fun _ args k => match args with
  | [(t0, .ref a0)] => mB (Nat.beq t0 105) <| bn (F) fun v => k (some (0, .int v))
  | _ => fl
def cs_Reader_lawLine (f_A_within : Int32 → Int32 → Int32 → M Int32) (f_Reader_condition : Int32 → M Int32) (f_Reader_fail : Int32 → M Int32) (f_Reader_isKeyword : Int32 → M Int32) (f_Reader_opensLine : Int32 → Nat → M Int32) (f_Reader_step : M Unit) (f_Reader_stepSign : Int32 → M Int32) (f_Reader_sum : M Int32) (f_Table_putWide : Nat → Int32 → Int32 → Int32 → Int32 → Int32 → M Int32) : List (Nat × Nat × CSem) := [(18, 3, W_A_within f_A_within), (91, 2, W_Reader_condition f_Reader_condition), (80, 2, W_Reader_fail f_Reader_fail), (82, 2, W_Reader_isKeyword f_Reader_isKeyword), (81, 3, W_Reader_opensLine f_Reader_opensLine), (84, 1, W_Reader_step f_Reader_step), (96, 2, W_Reader_stepSign f_Reader_stepSign), (85, 1, W_Reader_sum f_Reader_sum), (98, 6, W_Table_putWide f_Table_putWide)]
def K_Reader_lawLine_115 (x1 : Int32) (x2 : Int32) (x3 : Int32) : M (Int32) :=
  bn (F_Reader_stepSign (59 : Int32)) fun v1 =>
  (if v1 = 0 then
    bn (gdZ (0 : Int32)) fun _ => rt (0 : Int32)
  else
    bn (rd 95 1) fun v2 =>
    bn (F_Table_putWide 96 x1 x2 x3 v2 (0 : Int32)) fun v3 =>
    bn (gdZ (1 : Int32)) fun _ => rt (1 : Int32))
set_option maxRecDepth 4000 in
theorem e_s_Reader_lawLine_115 (f_A_within : Int32 → Int32 → Int32 → M Int32) (f_Reader_condition : Int32 → M Int32) (f_Reader_fail : Int32 → M Int32) (f_Reader_isKeyword : Int32 → M Int32) (f_Reader_opensLine : Int32 → Nat → M Int32) (f_Reader_step : M Unit) (f_Reader_stepSign : Int32 → M Int32) (f_Reader_sum : M Int32) (f_Table_putWide : Nat → Int32 → Int32 → Int32 → Int32 → Int32 → M Int32) (x1 : Int32) (x2 : Int32) (x3 : Int32) : wf (β := Int32) L X q_Reader_lawLine 2 (cs_Reader_lawLine f_A_within f_Reader_condition f_Reader_fail f_Reader_isKeyword f_Reader_opensLine f_Reader_step f_Reader_stepSign f_Reader_sum f_Table_putWide) [] [115] (fun _ _ _ => fl) (fun v => match v with | some (_, .int x) => rt x | _ => fl) 88 115 [(105, .ref 93), (0, .int x1), (0, .int x2), (0, .int x3)] [] = (bn (f_Reader_stepSign (59 : Int32)) fun v1 =>
  (if v1 = 0 then
    bn (gdZ (0 : Int32)) fun _ => rt (0 : Int32)
  else
    bn (rd 95 1) fun v2 =>
    bn (f_Table_putWide 96 x1 x2 x3 v2 (0 : Int32)) fun v3 =>
    bn (gdZ (1 : Int32)) fun _ => rt (1 : Int32))) := rfl
theorem s_Reader_lawLine_115 {d : Nat} (hcs : AllS L X d (cs_Reader_lawLine F_A_within F_Reader_condition F_Reader_fail F_Reader_isKeyword F_Reader_opensLine F_Reader_step F_Reader_stepSign F_Reader_sum F_Table_putWide)) (x1 : Int32) (x2 : Int32) (x3 : Int32) {o : Option Value × PH} {Q : (Int32) → MI → Prop} (q0 : ∀ v I, Q v I → o = (some (.int v), HH I)) (I : MI) (r : Int32) (I1 : MI) (h : K_Reader_lawLine_115 x1 x2 x3 I = some (r, I1)) (hq : Q r I1) : At L X (d + 1) 79 115 [(105, .ref 93), (0, .int x1), (0, .int x2), (0, .int x3)] [] I o := by
  refine wf_ok z_Reader_lawLine hcs ?_ ?_ _ _ _ _ _ ⟨rfl, trivial, trivial, trivial, trivial⟩ trivial (unm_refl _ _) ((congrFun (e_s_Reader_lawLine_115 (L := L) (X := X) F_A_within F_Reader_condition F_Reader_fail F_Reader_isKeyword F_Reader_opensLine F_Reader_step F_Reader_stepSign F_Reader_sum F_Table_putWide x1 x2 x3) I).trans h)
  · intro pc ls st I2 h1 h2 h3 h
    cases h
  · intro v I2 _ h
    split at h
    · cases h; exact q0 _ _ hq
    · cases h
def F_Reader_lawLine : M (Int32) :=
  bn (rd 93 10) fun v1 =>
  bn (ld 401 107 v1) fun v2 =>
  (if v2 = (2 : Int32) then
    bn (rd 93 10) fun v11 =>
    bn (ld 401 108 v11) fun v12 =>
    bn (F_A_within v12 (0 : Int32) (2 : Int32)) fun v13 =>
    (if v13 = 0 then
      bn (F_Reader_fail (1 : Int32)) fun v20 =>
      bn (gdZ v20) fun _ => rt v20
    else
      bn (F_Reader_opensLine v12 96) fun v14 =>
      (if v14 = 0 then
        bn (gdZ (0 : Int32)) fun _ => rt (0 : Int32)
      else
        bn (rd 95 1) fun v15 =>
        bn (F_Reader_sum) fun v16 =>
        (if v16 = 0 then
          bn (gdZ (0 : Int32)) fun _ => rt (0 : Int32)
        else
          bn (rd 95 1) fun v17 =>
          bn (F_Reader_isKeyword (3 : Int32)) fun v18 =>
          (if v18 = 0 then
            K_Reader_lawLine_115 v12 v15 v17
          else
            bn (F_Reader_step) fun _ =>
            bn (F_Reader_condition (0 : Int32)) fun v19 =>
            (if v19 = 0 then
              bn (gdZ (0 : Int32)) fun _ => rt (0 : Int32)
            else
              K_Reader_lawLine_115 v12 v15 v17)))))
  else
    bn (F_A_within (-1 : Int32) (0 : Int32) (2 : Int32)) fun v3 =>
    (if v3 = 0 then
      bn (F_Reader_fail (1 : Int32)) fun v10 =>
      bn (gdZ v10) fun _ => rt v10
    else
      bn (F_Reader_opensLine (-1 : Int32) 96) fun v4 =>
      (if v4 = 0 then
        bn (gdZ (0 : Int32)) fun _ => rt (0 : Int32)
      else
        bn (rd 95 1) fun v5 =>
        bn (F_Reader_sum) fun v6 =>
        (if v6 = 0 then
          bn (gdZ (0 : Int32)) fun _ => rt (0 : Int32)
        else
          bn (rd 95 1) fun v7 =>
          bn (F_Reader_isKeyword (3 : Int32)) fun v8 =>
          (if v8 = 0 then
            K_Reader_lawLine_115 (-1 : Int32) v5 v7
          else
            bn (F_Reader_step) fun _ =>
            bn (F_Reader_condition (0 : Int32)) fun v9 =>
            (if v9 = 0 then
              bn (gdZ (0 : Int32)) fun _ => rt (0 : Int32)
            else
              K_Reader_lawLine_115 (-1 : Int32) v5 v7))))))
set_option maxRecDepth 4000 in
theorem e_s_Reader_lawLine_0 (f_A_within : Int32 → Int32 → Int32 → M Int32) (f_Reader_condition : Int32 → M Int32) (f_Reader_fail : Int32 → M Int32) (f_Reader_isKeyword : Int32 → M Int32) (f_Reader_opensLine : Int32 → Nat → M Int32) (f_Reader_step : M Unit) (f_Reader_stepSign : Int32 → M Int32) (f_Reader_sum : M Int32) (f_Table_putWide : Nat → Int32 → Int32 → Int32 → Int32 → Int32 → M Int32) (k_115 : Int32 → Int32 → Int32 → M (Int32)) : wf (β := Int32) L X q_Reader_lawLine 2 (cs_Reader_lawLine f_A_within f_Reader_condition f_Reader_fail f_Reader_isKeyword f_Reader_opensLine f_Reader_step f_Reader_stepSign f_Reader_sum f_Table_putWide) [1, 2, 3] [115] (fun pc ls st => mC (Nat.beq pc 115) (mN st <| gI ls 1 fun a1 => gI ls 2 fun a2 => gI ls 3 fun a3 => k_115 a1 a2 a3) (fl)) (fun v => match v with | some (_, .int x) => rt x | _ => fl) 88 0 [(105, .ref 93), (0, dV), (0, dV), (0, dV)] [] = (bn (rd 93 10) fun v1 =>
  bn (ld 401 107 v1) fun v2 =>
  (if v2 = (2 : Int32) then
    bn (rd 93 10) fun v11 =>
    bn (ld 401 108 v11) fun v12 =>
    bn (f_A_within v12 (0 : Int32) (2 : Int32)) fun v13 =>
    (if v13 = 0 then
      bn (f_Reader_fail (1 : Int32)) fun v20 =>
      bn (gdZ v20) fun _ => rt v20
    else
      bn (f_Reader_opensLine v12 96) fun v14 =>
      (if v14 = 0 then
        bn (gdZ (0 : Int32)) fun _ => rt (0 : Int32)
      else
        bn (rd 95 1) fun v15 =>
        bn (f_Reader_sum) fun v16 =>
        (if v16 = 0 then
          bn (gdZ (0 : Int32)) fun _ => rt (0 : Int32)
        else
          bn (rd 95 1) fun v17 =>
          bn (f_Reader_isKeyword (3 : Int32)) fun v18 =>
          (if v18 = 0 then
            k_115 v12 v15 v17
          else
            bn (f_Reader_step) fun _ =>
            bn (f_Reader_condition (0 : Int32)) fun v19 =>
            (if v19 = 0 then
              bn (gdZ (0 : Int32)) fun _ => rt (0 : Int32)
            else
              k_115 v12 v15 v17)))))
  else
    bn (f_A_within (-1 : Int32) (0 : Int32) (2 : Int32)) fun v3 =>
    (if v3 = 0 then
      bn (f_Reader_fail (1 : Int32)) fun v10 =>
      bn (gdZ v10) fun _ => rt v10
    else
      bn (f_Reader_opensLine (-1 : Int32) 96) fun v4 =>
      (if v4 = 0 then
        bn (gdZ (0 : Int32)) fun _ => rt (0 : Int32)
      else
        bn (rd 95 1) fun v5 =>
        bn (f_Reader_sum) fun v6 =>
        (if v6 = 0 then
          bn (gdZ (0 : Int32)) fun _ => rt (0 : Int32)
        else
          bn (rd 95 1) fun v7 =>
          bn (f_Reader_isKeyword (3 : Int32)) fun v8 =>
          (if v8 = 0 then
            k_115 (-1 : Int32) v5 v7
          else
            bn (f_Reader_step) fun _ =>
            bn (f_Reader_condition (0 : Int32)) fun v9 =>
            (if v9 = 0 then
              bn (gdZ (0 : Int32)) fun _ => rt (0 : Int32)
            else
              k_115 (-1 : Int32) v5 v7))))))) := rfl
theorem s_Reader_lawLine_0 {d : Nat} (hcs : AllS L X d (cs_Reader_lawLine F_A_within F_Reader_condition F_Reader_fail F_Reader_isKeyword F_Reader_opensLine F_Reader_step F_Reader_stepSign F_Reader_sum F_Table_putWide)) {o : Option Value × PH} {Q : (Int32) → MI → Prop} (q0 : ∀ v I, Q v I → o = (some (.int v), HH I)) (I : MI) (r : Int32) (I1 : MI) (h : F_Reader_lawLine I = some (r, I1)) (hq : Q r I1) : At L X (d + 1) 79 0 [(105, .ref 93), (0, dV), (0, dV), (0, dV)] [] I o := by
  refine wf_ok z_Reader_lawLine hcs ?_ ?_ _ _ _ _ _ ⟨rfl, trivial, trivial, trivial, trivial⟩ trivial (unm_refl _ _) ((congrFun (e_s_Reader_lawLine_0 (L := L) (X := X) F_A_within F_Reader_condition F_Reader_fail F_Reader_isKeyword F_Reader_opensLine F_Reader_step F_Reader_stepSign F_Reader_sum F_Table_putWide K_Reader_lawLine_115) I).trans h)
  · intro pc ls st I2 h1 h2 h3 h
    rcases mC_ok h with ⟨hb, h⟩ | ⟨_, h⟩
    · have e := Nat.eq_of_beq_eq_true hb
      subst e
      obtain ⟨hst, h⟩ := mN_ok h
      subst hst
      obtain ⟨a1, n1, h⟩ := gI_ok h
      obtain ⟨a2, n2, h⟩ := gI_ok h
      obtain ⟨a3, n3, h⟩ := gI_ok h
      refine at_leaf (ls2 := [(105, .ref 93), (0, .int a1), (0, .int a2), (0, .int a3)]) h3.1 ⟨Or.inr ⟨_, (h3.2 0 rfl).trans rfl⟩, Or.inr n1, Or.inr n2, Or.inr n3, trivial⟩ ?_
      exact s_Reader_lawLine_115 hcs a1 a2 a3 q0 _ _ _ h hq
    cases h
  · intro v I2 _ h
    split at h
    · cases h; exact q0 _ _ hq
    · cases h
theorem w_Reader_lawLine {d : Nat} (hcs : AllS L X d (cs_Reader_lawLine F_A_within F_Reader_condition F_Reader_fail F_Reader_isKeyword F_Reader_opensLine F_Reader_step F_Reader_stepSign F_Reader_sum F_Table_putWide)) : Snd L X (d + 1) 79 1 (W_Reader_lawLine F_Reader_lawLine) := by
  refine ⟨_, z_Reader_lawLine, rfl, fun β args k I r hty hlen h => ?_⟩
  unfold W_Reader_lawLine at h
  split at h
  · rename_i t0 a0
    obtain ⟨hb0, h⟩ := mB_ok h
    have e0 := Nat.eq_of_beq_eq_true hb0
    have g0 : okB 105 a0 = true := e0 ▸ hty.1
    have e20 := one_105 g0
    subst e20
    obtain ⟨v, I1, h1, h2⟩ := bn_some h
    refine ⟨gf_obj (c := 5) (by decide) g0, rfl, some (0, .int v), I1, trivial, ?_, h2⟩
    exact s_Reader_lawLine_0 hcs   (Q := fun w I => w = v ∧ I = I1) (fun w I q => by obtain ⟨rfl, rfl⟩ := q; rfl) I v I1 h1 ⟨rfl, rfl⟩
  · cases h
theorem S_Reader_lawLine {d : Nat} (hd : 125 ≤ d) : Snd L X d 79 1 (W_Reader_lawLine F_Reader_lawLine) := by
  obtain ⟨e, rfl⟩ : ∃ e, d = e + 1 := ⟨d - 1, by omega⟩
  exact w_Reader_lawLine ⟨S_A_within (by omega), S_Reader_condition (by omega), S_Reader_fail (by omega), S_Reader_isKeyword (by omega), S_Reader_opensLine (by omega), S_Reader_step (by omega), S_Reader_stepSign (by omega), S_Reader_sum (by omega), S_Table_putWide (by omega), trivial⟩
set_option maxRecDepth 100000 in
theorem z_Reader_shareLine : pT[100]? = some (q_Reader_shareLine, 1, 5, 2, 5) := rfl
def W_Reader_shareLine (F : M Int32) : CSem := fun _ args k => match args with
  | [(t0, .ref a0)] => mB (Nat.beq t0 105) <| bn (F) fun v => k (some (0, .int v))
  | _ => fl
def cs_Reader_shareLine (f_Reader_opensLine : Int32 → Nat → M Int32) (f_Reader_stepKeyword : Int32 → M Int32) (f_Reader_stepNumber : Int32 → Int32 → M Int32) (f_Reader_stepSign : Int32 → M Int32) (f_Table_putWide : Nat → Int32 → Int32 → Int32 → Int32 → Int32 → M Int32) : List (Nat × Nat × CSem) := [(81, 3, W_Reader_opensLine f_Reader_opensLine), (102, 2, W_Reader_stepKeyword f_Reader_stepKeyword), (101, 3, W_Reader_stepNumber f_Reader_stepNumber), (96, 2, W_Reader_stepSign f_Reader_stepSign), (98, 6, W_Table_putWide f_Table_putWide)]
def F_Reader_shareLine : M (Int32) :=
  bn (F_Reader_opensLine (16 : Int32) 100) fun v1 =>
  (if v1 = 0 then
    bn (gdZ (0 : Int32)) fun _ => rt (0 : Int32)
  else
    bn (rd 2 8) fun v2 =>
    bn (F_Reader_stepNumber (0 : Int32) (v2 - (1 : Int32))) fun v3 =>
    (if v3 = 0 then
      bn (gdZ (0 : Int32)) fun _ => rt (0 : Int32)
    else
      bn (rd 93 11) fun v4 =>
      bn (F_Reader_stepKeyword (17 : Int32)) fun v5 =>
      (if v5 = 0 then
        bn (gdZ (0 : Int32)) fun _ => rt (0 : Int32)
      else
        bn (F_Reader_stepNumber (0 : Int32) (23 : Int32)) fun v6 =>
        (if v6 = 0 then
          bn (gdZ (0 : Int32)) fun _ => rt (0 : Int32)
        else
          bn (rd 93 11) fun v7 =>
          bn (F_Reader_stepKeyword (18 : Int32)) fun v8 =>
          (if v8 = 0 then
            bn (gdZ (0 : Int32)) fun _ => rt (0 : Int32)
          else
            bn (F_Reader_stepNumber v7 (23 : Int32)) fun v9 =>
            (if v9 = 0 then
              bn (gdZ (0 : Int32)) fun _ => rt (0 : Int32)
            else
              bn (rd 93 11) fun v10 =>
              bn (F_Reader_stepKeyword (19 : Int32)) fun v11 =>
              (if v11 = 0 then
                bn (gdZ (0 : Int32)) fun _ => rt (0 : Int32)
              else
                bn (F_Reader_stepNumber (0 : Int32) (9 : Int32)) fun v12 =>
                (if v12 = 0 then
                  bn (gdZ (0 : Int32)) fun _ => rt (0 : Int32)
                else
                  bn (rd 93 11) fun v13 =>
                  bn (F_Reader_stepSign (59 : Int32)) fun v14 =>
                  (if v14 = 0 then
                    bn (gdZ (0 : Int32)) fun _ => rt (0 : Int32)
                  else
                    bn (F_Table_putWide 100 v4 v7 v10 v13 (0 : Int32)) fun v15 =>
                    bn (gdZ (1 : Int32)) fun _ => rt (1 : Int32))))))))))
set_option maxRecDepth 4000 in
theorem e_s_Reader_shareLine_0 (f_Reader_opensLine : Int32 → Nat → M Int32) (f_Reader_stepKeyword : Int32 → M Int32) (f_Reader_stepNumber : Int32 → Int32 → M Int32) (f_Reader_stepSign : Int32 → M Int32) (f_Table_putWide : Nat → Int32 → Int32 → Int32 → Int32 → Int32 → M Int32) : wf (β := Int32) L X q_Reader_shareLine 2 (cs_Reader_shareLine f_Reader_opensLine f_Reader_stepKeyword f_Reader_stepNumber f_Reader_stepSign f_Table_putWide) [1, 2, 3, 4] [] (fun _ _ _ => fl) (fun v => match v with | some (_, .int x) => rt x | _ => fl) 87 0 [(105, .ref 93), (0, dV), (0, dV), (0, dV), (0, dV)] [] = (bn (f_Reader_opensLine (16 : Int32) 100) fun v1 =>
  (if v1 = 0 then
    bn (gdZ (0 : Int32)) fun _ => rt (0 : Int32)
  else
    bn (rd 2 8) fun v2 =>
    bn (f_Reader_stepNumber (0 : Int32) (v2 - (1 : Int32))) fun v3 =>
    (if v3 = 0 then
      bn (gdZ (0 : Int32)) fun _ => rt (0 : Int32)
    else
      bn (rd 93 11) fun v4 =>
      bn (f_Reader_stepKeyword (17 : Int32)) fun v5 =>
      (if v5 = 0 then
        bn (gdZ (0 : Int32)) fun _ => rt (0 : Int32)
      else
        bn (f_Reader_stepNumber (0 : Int32) (23 : Int32)) fun v6 =>
        (if v6 = 0 then
          bn (gdZ (0 : Int32)) fun _ => rt (0 : Int32)
        else
          bn (rd 93 11) fun v7 =>
          bn (f_Reader_stepKeyword (18 : Int32)) fun v8 =>
          (if v8 = 0 then
            bn (gdZ (0 : Int32)) fun _ => rt (0 : Int32)
          else
            bn (f_Reader_stepNumber v7 (23 : Int32)) fun v9 =>
            (if v9 = 0 then
              bn (gdZ (0 : Int32)) fun _ => rt (0 : Int32)
            else
              bn (rd 93 11) fun v10 =>
              bn (f_Reader_stepKeyword (19 : Int32)) fun v11 =>
              (if v11 = 0 then
                bn (gdZ (0 : Int32)) fun _ => rt (0 : Int32)
              else
                bn (f_Reader_stepNumber (0 : Int32) (9 : Int32)) fun v12 =>
                (if v12 = 0 then
                  bn (gdZ (0 : Int32)) fun _ => rt (0 : Int32)
                else
                  bn (rd 93 11) fun v13 =>
                  bn (f_Reader_stepSign (59 : Int32)) fun v14 =>
                  (if v14 = 0 then
                    bn (gdZ (0 : Int32)) fun _ => rt (0 : Int32)
                  else
                    bn (f_Table_putWide 100 v4 v7 v10 v13 (0 : Int32)) fun v15 =>
                    bn (gdZ (1 : Int32)) fun _ => rt (1 : Int32))))))))))) := rfl
theorem s_Reader_shareLine_0 {d : Nat} (hcs : AllS L X d (cs_Reader_shareLine F_Reader_opensLine F_Reader_stepKeyword F_Reader_stepNumber F_Reader_stepSign F_Table_putWide)) {o : Option Value × PH} {Q : (Int32) → MI → Prop} (q0 : ∀ v I, Q v I → o = (some (.int v), HH I)) (I : MI) (r : Int32) (I1 : MI) (h : F_Reader_shareLine I = some (r, I1)) (hq : Q r I1) : At L X (d + 1) 100 0 [(105, .ref 93), (0, dV), (0, dV), (0, dV), (0, dV)] [] I o := by
  refine wf_ok z_Reader_shareLine hcs ?_ ?_ _ _ _ _ _ ⟨rfl, trivial, trivial, trivial, trivial, trivial⟩ trivial (unm_refl _ _) ((congrFun (e_s_Reader_shareLine_0 (L := L) (X := X) F_Reader_opensLine F_Reader_stepKeyword F_Reader_stepNumber F_Reader_stepSign F_Table_putWide) I).trans h)
  · intro pc ls st I2 h1 h2 h3 h
    cases h
  · intro v I2 _ h
    split at h
    · cases h; exact q0 _ _ hq
    · cases h
theorem w_Reader_shareLine {d : Nat} (hcs : AllS L X d (cs_Reader_shareLine F_Reader_opensLine F_Reader_stepKeyword F_Reader_stepNumber F_Reader_stepSign F_Table_putWide)) : Snd L X (d + 1) 100 1 (W_Reader_shareLine F_Reader_shareLine) := by
  refine ⟨_, z_Reader_shareLine, rfl, fun β args k I r hty hlen h => ?_⟩
  unfold W_Reader_shareLine at h
  split at h
  · rename_i t0 a0
    obtain ⟨hb0, h⟩ := mB_ok h
    have e0 := Nat.eq_of_beq_eq_true hb0
    have g0 : okB 105 a0 = true := e0 ▸ hty.1
    have e20 := one_105 g0
    subst e20
    obtain ⟨v, I1, h1, h2⟩ := bn_some h
    refine ⟨gf_obj (c := 5) (by decide) g0, rfl, some (0, .int v), I1, trivial, ?_, h2⟩
    exact s_Reader_shareLine_0 hcs   (Q := fun w I => w = v ∧ I = I1) (fun w I q => by obtain ⟨rfl, rfl⟩ := q; rfl) I v I1 h1 ⟨rfl, rfl⟩
  · cases h
theorem S_Reader_shareLine {d : Nat} (hd : 3 ≤ d) : Snd L X d 100 1 (W_Reader_shareLine F_Reader_shareLine) := by
  obtain ⟨e, rfl⟩ : ∃ e, d = e + 1 := ⟨d - 1, by omega⟩
  exact w_Reader_shareLine ⟨S_Reader_opensLine (by omega), S_Reader_stepKeyword (by omega), S_Reader_stepNumber (by omega), S_Reader_stepSign (by omega), S_Table_putWide (by omega), trivial⟩
set_option maxRecDepth 100000 in
theorem z_Reader_wayLine : pT[105]? = some (q_Reader_wayLine, 1, 3, 2, 5) := rfl
def W_Reader_wayLine (F : M Int32) : CSem := fun _ args k => match args with
  | [(t0, .ref a0)] => mB (Nat.beq t0 105) <| bn (F) fun v => k (some (0, .int v))
  | _ => fl
def cs_Reader_wayLine (f_Reader_fail : Int32 → M Int32) (f_Reader_opensLine : Int32 → Nat → M Int32) (f_Reader_stepKeyword : Int32 → M Int32) (f_Reader_stepNumber : Int32 → Int32 → M Int32) (f_Reader_stepSign : Int32 → M Int32) (f_Table_put : Nat → Int32 → Int32 → Int32 → M Int32) : List (Nat × Nat × CSem) := [(80, 2, W_Reader_fail f_Reader_fail), (81, 3, W_Reader_opensLine f_Reader_opensLine), (102, 2, W_Reader_stepKeyword f_Reader_stepKeyword), (101, 3, W_Reader_stepNumber f_Reader_stepNumber), (96, 2, W_Reader_stepSign f_Reader_stepSign), (106, 4, W_Table_put f_Table_put)]
def K_Reader_wayLine_76 (x1 : Int32) : M (Int32) :=
  bn (F_Reader_stepNumber (0 : Int32) (9 : Int32)) fun v1 =>
  (if v1 = 0 then
    bn (gdZ (0 : Int32)) fun _ => rt (0 : Int32)
  else
    bn (rd 93 11) fun v2 =>
    bn (F_Reader_stepSign (59 : Int32)) fun v3 =>
    (if v3 = 0 then
      bn (gdZ (0 : Int32)) fun _ => rt (0 : Int32)
    else
      bn (F_Table_put 104 x1 v2 (0 : Int32)) fun v4 =>
      bn (gdZ (1 : Int32)) fun _ => rt (1 : Int32)))
set_option maxRecDepth 4000 in
theorem e_s_Reader_wayLine_76 (f_Reader_fail : Int32 → M Int32) (f_Reader_opensLine : Int32 → Nat → M Int32) (f_Reader_stepKeyword : Int32 → M Int32) (f_Reader_stepNumber : Int32 → Int32 → M Int32) (f_Reader_stepSign : Int32 → M Int32) (f_Table_put : Nat → Int32 → Int32 → Int32 → M Int32) (x1 : Int32) : wf (β := Int32) L X q_Reader_wayLine 2 (cs_Reader_wayLine f_Reader_fail f_Reader_opensLine f_Reader_stepKeyword f_Reader_stepNumber f_Reader_stepSign f_Table_put) [2] [76] (fun _ _ _ => fl) (fun v => match v with | some (_, .int x) => rt x | _ => fl) 72 76 [(105, .ref 93), (0, .int x1), (0, dV)] [] = (bn (f_Reader_stepNumber (0 : Int32) (9 : Int32)) fun v1 =>
  (if v1 = 0 then
    bn (gdZ (0 : Int32)) fun _ => rt (0 : Int32)
  else
    bn (rd 93 11) fun v2 =>
    bn (f_Reader_stepSign (59 : Int32)) fun v3 =>
    (if v3 = 0 then
      bn (gdZ (0 : Int32)) fun _ => rt (0 : Int32)
    else
      bn (f_Table_put 104 x1 v2 (0 : Int32)) fun v4 =>
      bn (gdZ (1 : Int32)) fun _ => rt (1 : Int32)))) := rfl
theorem s_Reader_wayLine_76 {d : Nat} (hcs : AllS L X d (cs_Reader_wayLine F_Reader_fail F_Reader_opensLine F_Reader_stepKeyword F_Reader_stepNumber F_Reader_stepSign F_Table_put)) (x1 : Int32) {o : Option Value × PH} {Q : (Int32) → MI → Prop} (q0 : ∀ v I, Q v I → o = (some (.int v), HH I)) (I : MI) (r : Int32) (I1 : MI) (h : K_Reader_wayLine_76 x1 I = some (r, I1)) (hq : Q r I1) : At L X (d + 1) 105 76 [(105, .ref 93), (0, .int x1), (0, dV)] [] I o := by
  refine wf_ok z_Reader_wayLine hcs ?_ ?_ _ _ _ _ _ ⟨rfl, trivial, trivial, trivial⟩ trivial (unm_refl _ _) ((congrFun (e_s_Reader_wayLine_76 (L := L) (X := X) F_Reader_fail F_Reader_opensLine F_Reader_stepKeyword F_Reader_stepNumber F_Reader_stepSign F_Table_put x1) I).trans h)
  · intro pc ls st I2 h1 h2 h3 h
    cases h
  · intro v I2 _ h
    split at h
    · cases h; exact q0 _ _ hq
    · cases h
def F_Reader_wayLine : M (Int32) :=
  bn (F_Reader_opensLine (13 : Int32) 104) fun v1 =>
  (if v1 = 0 then
    bn (gdZ (0 : Int32)) fun _ => rt (0 : Int32)
  else
    bn (F_Reader_stepNumber (0 : Int32) (9 : Int32)) fun v2 =>
    (if v2 = 0 then
      bn (gdZ (0 : Int32)) fun _ => rt (0 : Int32)
    else
      bn (rd 93 11) fun v3 =>
      bn (F_Reader_stepKeyword (25 : Int32)) fun v4 =>
      (if v4 = 0 then
        bn (gdZ (0 : Int32)) fun _ => rt (0 : Int32)
      else
        bn (rd 93 10) fun v5 =>
        bn (ld 401 107 v5) fun v6 =>
        (if v6 = (3 : Int32) then
          bn (rd 93 10) fun v7 =>
          bn (ld 401 108 v7) fun v8 =>
          (if v8 = v3 then
            bn (F_Reader_fail (2 : Int32)) fun v9 =>
            bn (gdZ v9) fun _ => rt v9
          else
            K_Reader_wayLine_76 v3)
        else
          K_Reader_wayLine_76 v3))))
set_option maxRecDepth 4000 in
theorem e_s_Reader_wayLine_0 (f_Reader_fail : Int32 → M Int32) (f_Reader_opensLine : Int32 → Nat → M Int32) (f_Reader_stepKeyword : Int32 → M Int32) (f_Reader_stepNumber : Int32 → Int32 → M Int32) (f_Reader_stepSign : Int32 → M Int32) (f_Table_put : Nat → Int32 → Int32 → Int32 → M Int32) (k_76 : Int32 → M (Int32)) : wf (β := Int32) L X q_Reader_wayLine 2 (cs_Reader_wayLine f_Reader_fail f_Reader_opensLine f_Reader_stepKeyword f_Reader_stepNumber f_Reader_stepSign f_Table_put) [1] [76] (fun pc ls st => mC (Nat.beq pc 76) (mN st <| gI ls 1 fun a1 => gD ls 2 <| k_76 a1) (fl)) (fun v => match v with | some (_, .int x) => rt x | _ => fl) 72 0 [(105, .ref 93), (0, dV), (0, dV)] [] = (bn (f_Reader_opensLine (13 : Int32) 104) fun v1 =>
  (if v1 = 0 then
    bn (gdZ (0 : Int32)) fun _ => rt (0 : Int32)
  else
    bn (f_Reader_stepNumber (0 : Int32) (9 : Int32)) fun v2 =>
    (if v2 = 0 then
      bn (gdZ (0 : Int32)) fun _ => rt (0 : Int32)
    else
      bn (rd 93 11) fun v3 =>
      bn (f_Reader_stepKeyword (25 : Int32)) fun v4 =>
      (if v4 = 0 then
        bn (gdZ (0 : Int32)) fun _ => rt (0 : Int32)
      else
        bn (rd 93 10) fun v5 =>
        bn (ld 401 107 v5) fun v6 =>
        (if v6 = (3 : Int32) then
          bn (rd 93 10) fun v7 =>
          bn (ld 401 108 v7) fun v8 =>
          (if v8 = v3 then
            bn (f_Reader_fail (2 : Int32)) fun v9 =>
            bn (gdZ v9) fun _ => rt v9
          else
            k_76 v3)
        else
          k_76 v3))))) := rfl
theorem s_Reader_wayLine_0 {d : Nat} (hcs : AllS L X d (cs_Reader_wayLine F_Reader_fail F_Reader_opensLine F_Reader_stepKeyword F_Reader_stepNumber F_Reader_stepSign F_Table_put)) {o : Option Value × PH} {Q : (Int32) → MI → Prop} (q0 : ∀ v I, Q v I → o = (some (.int v), HH I)) (I : MI) (r : Int32) (I1 : MI) (h : F_Reader_wayLine I = some (r, I1)) (hq : Q r I1) : At L X (d + 1) 105 0 [(105, .ref 93), (0, dV), (0, dV)] [] I o := by
  refine wf_ok z_Reader_wayLine hcs ?_ ?_ _ _ _ _ _ ⟨rfl, trivial, trivial, trivial⟩ trivial (unm_refl _ _) ((congrFun (e_s_Reader_wayLine_0 (L := L) (X := X) F_Reader_fail F_Reader_opensLine F_Reader_stepKeyword F_Reader_stepNumber F_Reader_stepSign F_Table_put K_Reader_wayLine_76) I).trans h)
  · intro pc ls st I2 h1 h2 h3 h
    rcases mC_ok h with ⟨hb, h⟩ | ⟨_, h⟩
    · have e := Nat.eq_of_beq_eq_true hb
      subst e
      obtain ⟨hst, h⟩ := mN_ok h
      subst hst
      obtain ⟨a1, n1, h⟩ := gI_ok h
      obtain ⟨n2, h⟩ := gD_ok h
      refine at_leaf (ls2 := [(105, .ref 93), (0, .int a1), (0, dV)]) h3.1 ⟨Or.inr ⟨_, (h3.2 0 rfl).trans rfl⟩, Or.inr n1, Or.inl ⟨rfl, n2⟩, trivial⟩ ?_
      exact s_Reader_wayLine_76 hcs a1 q0 _ _ _ h hq
    cases h
  · intro v I2 _ h
    split at h
    · cases h; exact q0 _ _ hq
    · cases h
theorem w_Reader_wayLine {d : Nat} (hcs : AllS L X d (cs_Reader_wayLine F_Reader_fail F_Reader_opensLine F_Reader_stepKeyword F_Reader_stepNumber F_Reader_stepSign F_Table_put)) : Snd L X (d + 1) 105 1 (W_Reader_wayLine F_Reader_wayLine) := by
  refine ⟨_, z_Reader_wayLine, rfl, fun β args k I r hty hlen h => ?_⟩
  unfold W_Reader_wayLine at h
  split at h
  · rename_i t0 a0
    obtain ⟨hb0, h⟩ := mB_ok h
    have e0 := Nat.eq_of_beq_eq_true hb0
    have g0 : okB 105 a0 = true := e0 ▸ hty.1
    have e20 := one_105 g0
    subst e20
    obtain ⟨v, I1, h1, h2⟩ := bn_some h
    refine ⟨gf_obj (c := 5) (by decide) g0, rfl, some (0, .int v), I1, trivial, ?_, h2⟩
    exact s_Reader_wayLine_0 hcs   (Q := fun w I => w = v ∧ I = I1) (fun w I q => by obtain ⟨rfl, rfl⟩ := q; rfl) I v I1 h1 ⟨rfl, rfl⟩
  · cases h
theorem S_Reader_wayLine {d : Nat} (hd : 4 ≤ d) : Snd L X d 105 1 (W_Reader_wayLine F_Reader_wayLine) := by
  obtain ⟨e, rfl⟩ : ∃ e, d = e + 1 := ⟨d - 1, by omega⟩
  exact w_Reader_wayLine ⟨S_Reader_fail (by omega), S_Reader_opensLine (by omega), S_Reader_stepKeyword (by omega), S_Reader_stepNumber (by omega), S_Reader_stepSign (by omega), S_Table_put (by omega), trivial⟩
set_option maxRecDepth 100000 in
theorem z_Law_clear : pT[76]? = some (q_Law_clear, 1, 1, 0, 2) := rfl
def W_Law_clear (F : Nat → M Unit) : CSem := fun _ args k => match args with
  | [(t0, .ref a0)] => mB (Nat.beq t0 102) <| bn (F a0) fun _ => k none
  | _ => fl
def cs_Law_clear (f_Table_wipe : Nat → M Int32) : List (Nat × Nat × CSem) := [(77, 1, W_Table_wipe f_Table_wipe)]
def F_Law_clear (r0 : Nat) : M (Unit) :=
  bn (F_Table_wipe (r0 + 1)) fun v1 =>
  bn (wr r0 1 (0 : Int32)) fun _ =>
  rt ()
set_option maxRecDepth 4000 in
theorem e_s_Law_clear_0 (f_Table_wipe : Nat → M Int32) (r0 : Nat) : wf (β := Unit) L X q_Law_clear 0 (cs_Law_clear f_Table_wipe) [] [] (fun _ _ _ => fl) (fun v => match v with | none => rt () | _ => fl) 13 0 [(102, .ref r0)] [] = (bn (f_Table_wipe (r0 + 1)) fun v1 =>
  bn (wr r0 1 (0 : Int32)) fun _ =>
  rt ()) := rfl
theorem s_Law_clear_0 {d : Nat} (hcs : AllS L X d (cs_Law_clear F_Table_wipe)) (r0 : Nat) (t0 : okB 102 r0 = true) {o : Option Value × PH} {Q : (Unit) → MI → Prop} (q0 : ∀ v I, Q v I → o = (none, HH I)) (I : MI) (r : Unit) (I1 : MI) (h : F_Law_clear r0 I = some (r, I1)) (hq : Q r I1) : At L X (d + 1) 76 0 [(102, .ref r0)] [] I o := by
  refine wf_ok z_Law_clear hcs ?_ ?_ _ _ _ _ _ ⟨t0, trivial⟩ trivial (unm_refl _ _) ((congrFun (e_s_Law_clear_0 (L := L) (X := X) F_Table_wipe r0) I).trans h)
  · intro pc ls st I2 h1 h2 h3 h
    cases h
  · intro v I2 _ h
    split at h
    · cases h; exact q0 _ _ hq
    · cases h
theorem w_Law_clear {d : Nat} (hcs : AllS L X d (cs_Law_clear F_Table_wipe)) : Snd L X (d + 1) 76 1 (W_Law_clear F_Law_clear) := by
  refine ⟨_, z_Law_clear, rfl, fun β args k I r hty hlen h => ?_⟩
  unfold W_Law_clear at h
  split at h
  · rename_i t0 a0
    obtain ⟨hb0, h⟩ := mB_ok h
    have e0 := Nat.eq_of_beq_eq_true hb0
    have g0 : okB 102 a0 = true := e0 ▸ hty.1
    obtain ⟨v, I1, h1, h2⟩ := bn_some h
    refine ⟨gf_obj (c := 2) (by decide) g0, rfl, none, I1, trivial, ?_, h2⟩
    exact s_Law_clear_0 hcs a0 g0 (Q := fun w I => w = v ∧ I = I1) (fun w I q => by obtain ⟨rfl, rfl⟩ := q; rfl) I v I1 h1 ⟨rfl, rfl⟩
  · cases h
theorem S_Law_clear {d : Nat} (hd : 2 ≤ d) : Snd L X d 76 1 (W_Law_clear F_Law_clear) := by
  obtain ⟨e, rfl⟩ : ∃ e, d = e + 1 := ⟨d - 1, by omega⟩
  exact w_Law_clear ⟨S_Table_wipe (by omega), trivial⟩
set_option maxRecDepth 100000 in
theorem z_Texts_clear : pT[75]? = some (q_Texts_clear, 2, 2, 0, 9) := rfl
def W_Texts_clear (F : Nat → Int32 → M Unit) : CSem := fun _ args k => match args with
  | [(t0, .ref a0), (_, .int a1)] => mB (Nat.beq t0 109) <| bn (F a0 a1) fun _ => k none
  | _ => fl
def cs_Texts_clear (f_Law_clear : Nat → M Unit) (f_Table_wipe : Nat → M Int32) (f_Texts_table : Nat → Int32 → M Nat) : List (Nat × Nat × CSem) := [(76, 1, W_Law_clear f_Law_clear), (77, 1, W_Table_wipe f_Table_wipe), (78, 2, W_Texts_table f_Texts_table)]
def F_Texts_clear (r0 : Nat) (x1 : Int32) : M (Unit) :=
  (if x1 = 0 then
    bn (F_Law_clear (r0 + 1)) fun _ =>
    rt ()
  else
    bn (F_Texts_table r0 x1) fun v1 =>
    bn (F_Table_wipe v1) fun v2 =>
    rt ())
set_option maxRecDepth 4000 in
theorem e_s_Texts_clear_0 (f_Law_clear : Nat → M Unit) (f_Table_wipe : Nat → M Int32) (f_Texts_table : Nat → Int32 → M Nat) (r0 : Nat) (x1 : Int32) : wf (β := Unit) L X q_Texts_clear 0 (cs_Texts_clear f_Law_clear f_Table_wipe f_Texts_table) [] [] (fun _ _ _ => fl) (fun v => match v with | none => rt () | _ => fl) 17 0 [(109, .ref r0), (0, .int x1)] [] = ((if x1 = 0 then
    bn (f_Law_clear (r0 + 1)) fun _ =>
    rt ()
  else
    bn (f_Texts_table r0 x1) fun v1 =>
    bn (f_Table_wipe v1) fun v2 =>
    rt ())) := rfl
theorem s_Texts_clear_0 {d : Nat} (hcs : AllS L X d (cs_Texts_clear F_Law_clear F_Table_wipe F_Texts_table)) (r0 : Nat) (x1 : Int32) (t0 : okB 109 r0 = true) {o : Option Value × PH} {Q : (Unit) → MI → Prop} (q0 : ∀ v I, Q v I → o = (none, HH I)) (I : MI) (r : Unit) (I1 : MI) (h : F_Texts_clear r0 x1 I = some (r, I1)) (hq : Q r I1) : At L X (d + 1) 75 0 [(109, .ref r0), (0, .int x1)] [] I o := by
  refine wf_ok z_Texts_clear hcs ?_ ?_ _ _ _ _ _ ⟨t0, trivial, trivial⟩ trivial (unm_refl _ _) ((congrFun (e_s_Texts_clear_0 (L := L) (X := X) F_Law_clear F_Table_wipe F_Texts_table r0 x1) I).trans h)
  · intro pc ls st I2 h1 h2 h3 h
    cases h
  · intro v I2 _ h
    split at h
    · cases h; exact q0 _ _ hq
    · cases h
theorem w_Texts_clear {d : Nat} (hcs : AllS L X d (cs_Texts_clear F_Law_clear F_Table_wipe F_Texts_table)) : Snd L X (d + 1) 75 2 (W_Texts_clear F_Texts_clear) := by
  refine ⟨_, z_Texts_clear, rfl, fun β args k I r hty hlen h => ?_⟩
  unfold W_Texts_clear at h
  split at h
  · rename_i t0 a0 u1 a1
    obtain ⟨hb0, h⟩ := mB_ok h
    have e0 := Nat.eq_of_beq_eq_true hb0
    have g0 : okB 109 a0 = true := e0 ▸ hty.1
    obtain ⟨v, I1, h1, h2⟩ := bn_some h
    refine ⟨gf_obj (c := 9) (by decide) g0, rfl, none, I1, trivial, ?_, h2⟩
    exact s_Texts_clear_0 hcs a0 a1 g0 (Q := fun w I => w = v ∧ I = I1) (fun w I q => by obtain ⟨rfl, rfl⟩ := q; rfl) I v I1 h1 ⟨rfl, rfl⟩
  · cases h
theorem S_Texts_clear {d : Nat} (hd : 3 ≤ d) : Snd L X d 75 2 (W_Texts_clear F_Texts_clear) := by
  obtain ⟨e, rfl⟩ : ∃ e, d = e + 1 := ⟨d - 1, by omega⟩
  exact w_Texts_clear ⟨S_Law_clear (by omega), S_Table_wipe (by omega), S_Texts_table (by omega), trivial⟩
set_option maxRecDepth 100000 in
theorem z_Reader_read : pT[67]? = some (q_Reader_read, 2, 5, 1, 5) := rfl
def W_Reader_read (F : Int32 → M Int32) : CSem := fun _ args k => match args with
  | [(t0, .ref a0), (_, .int a1)] => mB (Nat.beq t0 105) <| bn (F a1) fun v => k (some (0, .int v))
  | _ => fl
def cs_Reader_read (f_A_within : Int32 → Int32 → Int32 → M Int32) (f_Reader_cutIntoTokens : Int32 → M Unit) (f_Reader_diaryLine : M Int32) (f_Reader_lawLine : M Int32) (f_Reader_shareLine : M Int32) (f_Reader_wayLine : M Int32) (f_Texts_clear : Nat → Int32 → M Unit) (f_Texts_take : Nat → Int32 → Nat → M Int32) : List (Nat × Nat × CSem) := [(18, 3, W_A_within f_A_within), (68, 2, W_Reader_cutIntoTokens f_Reader_cutIntoTokens), (103, 1, W_Reader_diaryLine f_Reader_diaryLine), (79, 1, W_Reader_lawLine f_Reader_lawLine), (100, 1, W_Reader_shareLine f_Reader_shareLine), (105, 1, W_Reader_wayLine f_Reader_wayLine), (75, 2, W_Texts_clear f_Texts_clear), (107, 3, W_Texts_take f_Texts_take)]
def B_Reader_read_46 (x1 : Int32) (y : Int32) : M ((Int32) ⊕ (Int32)) :=
  (if (16 : Int32) < y then
    bn (F_Texts_take 15 x1 94) fun v1 =>
    rt (.inr v1)
  else
    bn (rd 93 10) fun v2 =>
    bn (ld 401 107 v2) fun v3 =>
    (if v3 = 0 then
      bn (F_Texts_take 15 x1 94) fun v4 =>
      rt (.inr v4)
    else
      (if x1 = 0 then
        bn (F_Reader_lawLine) fun v8 =>
        (if v8 = 0 then
          rt (.inr (-1 : Int32))
        else
          rt (.inl (y + (1 : Int32))))
      else
        (if x1 = (1 : Int32) then
          bn (F_Reader_shareLine) fun v7 =>
          (if v7 = 0 then
            rt (.inr (-1 : Int32))
          else
            rt (.inl (y + (1 : Int32))))
        else
          (if x1 = (2 : Int32) then
            bn (F_Reader_diaryLine) fun v6 =>
            (if v6 = 0 then
              rt (.inr (-1 : Int32))
            else
              rt (.inl (y + (1 : Int32))))
          else
            bn (F_Reader_wayLine) fun v5 =>
            (if v5 = 0 then
              rt (.inr (-1 : Int32))
            else
              rt (.inl (y + (1 : Int32)))))))))
set_option maxRecDepth 4000 in
theorem e_b_Reader_read_46 (f_A_within : Int32 → Int32 → Int32 → M Int32) (f_Reader_cutIntoTokens : Int32 → M Unit) (f_Reader_diaryLine : M Int32) (f_Reader_lawLine : M Int32) (f_Reader_shareLine : M Int32) (f_Reader_wayLine : M Int32) (f_Texts_clear : Nat → Int32 → M Unit) (f_Texts_take : Nat → Int32 → Nat → M Int32) (x1 : Int32) (y : Int32) : wf (β := (Int32) ⊕ (Int32)) L X q_Reader_read 1 (cs_Reader_read f_A_within f_Reader_cutIntoTokens f_Reader_diaryLine f_Reader_lawLine f_Reader_shareLine f_Reader_wayLine f_Texts_clear f_Texts_take) [3, 4] [46] (fun pc ls st => mC (Nat.beq pc 46) (mN st <| gD ls 2 <| gI ls 3 fun a3 => gD ls 4 <| rt (.inl a3)) (fl)) (fun v => match v with | some (_, .int x) => rt (.inr x) | _ => fl) 78 46 [(105, .ref 93), (0, .int x1), (0, dV), (0, .int y), (0, dV)] [] = ((if (16 : Int32) < y then
    bn (f_Texts_take 15 x1 94) fun v1 =>
    rt (.inr v1)
  else
    bn (rd 93 10) fun v2 =>
    bn (ld 401 107 v2) fun v3 =>
    (if v3 = 0 then
      bn (f_Texts_take 15 x1 94) fun v4 =>
      rt (.inr v4)
    else
      (if x1 = 0 then
        bn (f_Reader_lawLine) fun v8 =>
        (if v8 = 0 then
          rt (.inr (-1 : Int32))
        else
          rt (.inl (y + (1 : Int32))))
      else
        (if x1 = (1 : Int32) then
          bn (f_Reader_shareLine) fun v7 =>
          (if v7 = 0 then
            rt (.inr (-1 : Int32))
          else
            rt (.inl (y + (1 : Int32))))
        else
          (if x1 = (2 : Int32) then
            bn (f_Reader_diaryLine) fun v6 =>
            (if v6 = 0 then
              rt (.inr (-1 : Int32))
            else
              rt (.inl (y + (1 : Int32))))
          else
            bn (f_Reader_wayLine) fun v5 =>
            (if v5 = 0 then
              rt (.inr (-1 : Int32))
            else
              rt (.inl (y + (1 : Int32)))))))))) := rfl
theorem b_Reader_read_46 {d : Nat} (hcs : AllS L X d (cs_Reader_read F_A_within F_Reader_cutIntoTokens F_Reader_diaryLine F_Reader_lawLine F_Reader_shareLine F_Reader_wayLine F_Texts_clear F_Texts_take)) (x1 : Int32) {o : Option Value × PH} {Q : ((Int32) ⊕ (Int32)) → MI → Prop} (qb : ∀ y I, Q (.inl y) I → At L X (d + 1) 67 46 [(105, .ref 93), (0, .int x1), (0, dV), (0, .int y), (0, dV)] [] I o) (qr : ∀ v I, Q (.inr v) I → o = (some (.int v), HH I)) (y : Int32) (I : MI) (r : (Int32) ⊕ (Int32)) (I1 : MI) (h : B_Reader_read_46 x1 y I = some (r, I1)) (hq : Q r I1) : At L X (d + 1) 67 46 [(105, .ref 93), (0, .int x1), (0, dV), (0, .int y), (0, dV)] [] I o := by
  refine wf_ok z_Reader_read hcs ?_ ?_ _ _ _ _ _ ⟨rfl, trivial, trivial, trivial, trivial, trivial⟩ trivial (unm_refl _ _) ((congrFun (e_b_Reader_read_46 (L := L) (X := X) F_A_within F_Reader_cutIntoTokens F_Reader_diaryLine F_Reader_lawLine F_Reader_shareLine F_Reader_wayLine F_Texts_clear F_Texts_take x1 y) I).trans h)
  · intro pc ls st I2 h1 h2 h3 h
    rcases mC_ok h with ⟨hb, h⟩ | ⟨_, h⟩
    · have e := Nat.eq_of_beq_eq_true hb
      subst e
      obtain ⟨hst, h⟩ := mN_ok h
      subst hst
      obtain ⟨n2, h⟩ := gD_ok h
      obtain ⟨a3, n3, h⟩ := gI_ok h
      obtain ⟨n4, h⟩ := gD_ok h
      refine at_leaf (ls2 := [(105, .ref 93), (0, .int x1), (0, dV), (0, .int a3), (0, dV)]) h3.1 ⟨Or.inr ⟨_, (h3.2 0 rfl).trans rfl⟩, Or.inr ⟨_, (h3.2 1 rfl).trans rfl⟩, Or.inl ⟨rfl, n2⟩, Or.inr n3, Or.inl ⟨rfl, n4⟩, trivial⟩ ?_
      cases h; exact qb _ _ hq
    cases h
  · intro v I2 _ h
    split at h
    · cases h; exact qr _ _ hq
    · cases h
def K_Reader_read_46 (x1 : Int32) (x3 : Int32) : M (Int32) :=
  lp (B_Reader_read_46 x1) FU x3
theorem s_Reader_read_46 {d : Nat} (hcs : AllS L X d (cs_Reader_read F_A_within F_Reader_cutIntoTokens F_Reader_diaryLine F_Reader_lawLine F_Reader_shareLine F_Reader_wayLine F_Texts_clear F_Texts_take)) (x1 : Int32) (x3 : Int32) {o : Option Value × PH} {Q : (Int32) → MI → Prop} (q0 : ∀ v I, Q v I → o = (some (.int v), HH I)) (I : MI) (r : Int32) (I1 : MI) (h : K_Reader_read_46 x1 x3 I = some (r, I1)) (hq : Q r I1) : At L X (d + 1) 67 46 [(105, .ref 93), (0, .int x1), (0, dV), (0, .int x3), (0, dV)] [] I o := by
  unfold K_Reader_read_46 at h
  have w0 := fun w => at_lp (body := B_Reader_read_46 x1) (P := (fun (y : Int32) I => At L X (d + 1) 67 46 [(105, .ref 93), (0, .int x1), (0, dV), (0, .int y), (0, dV)] [] I o)) (Q := (fun (e : Int32) I => Q e I)) w FU x3 I r I1 h hq
  refine w0 ?_
  intro y I r I1 h hq
  exact b_Reader_read_46 hcs x1 (Q := SQ (fun (y : Int32) I => At L X (d + 1) 67 46 [(105, .ref 93), (0, .int x1), (0, dV), (0, .int y), (0, dV)] [] I o) (fun (e : Int32) I => Q e I)) (fun _ _ w => w) q0 y I r I1 h hq
def F_Reader_read (x1 : Int32) : M (Int32) :=
  bn (wr 93 1 (0 : Int32)) fun _ =>
  bn (wr 93 2 (-1 : Int32)) fun _ =>
  bn (rd 93 0) fun v1 =>
  bn (wr 93 0 (0 : Int32)) fun _ =>
  bn (F_A_within x1 (0 : Int32) (3 : Int32)) fun v2 =>
  (if v2 = 0 then
    rt (-1 : Int32)
  else
    bn (F_Reader_cutIntoTokens v1) fun _ =>
    bn (F_Texts_clear 94 x1) fun _ =>
    K_Reader_read_46 x1 (0 : Int32))
set_option maxRecDepth 4000 in
theorem e_s_Reader_read_0 (f_A_within : Int32 → Int32 → Int32 → M Int32) (f_Reader_cutIntoTokens : Int32 → M Unit) (f_Reader_diaryLine : M Int32) (f_Reader_lawLine : M Int32) (f_Reader_shareLine : M Int32) (f_Reader_wayLine : M Int32) (f_Texts_clear : Nat → Int32 → M Unit) (f_Texts_take : Nat → Int32 → Nat → M Int32) (k_46 : Int32 → Int32 → M (Int32)) (x1 : Int32) : wf (β := Int32) L X q_Reader_read 1 (cs_Reader_read f_A_within f_Reader_cutIntoTokens f_Reader_diaryLine f_Reader_lawLine f_Reader_shareLine f_Reader_wayLine f_Texts_clear f_Texts_take) [2, 3] [46] (fun pc ls st => mC (Nat.beq pc 46) (mN st <| gD ls 2 <| gI ls 3 fun a3 => gD ls 4 <| k_46 x1 a3) (fl)) (fun v => match v with | some (_, .int x) => rt x | _ => fl) 78 0 [(105, .ref 93), (0, .int x1), (0, dV), (0, dV), (0, dV)] [] = (bn (wr 93 1 (0 : Int32)) fun _ =>
  bn (wr 93 2 (-1 : Int32)) fun _ =>
  bn (rd 93 0) fun v1 =>
  bn (wr 93 0 (0 : Int32)) fun _ =>
  bn (f_A_within x1 (0 : Int32) (3 : Int32)) fun v2 =>
  (if v2 = 0 then
    rt (-1 : Int32)
  else
    bn (f_Reader_cutIntoTokens v1) fun _ =>
    bn (f_Texts_clear 94 x1) fun _ =>
    k_46 x1 (0 : Int32))) := rfl
theorem s_Reader_read_0 {d : Nat} (hcs : AllS L X d (cs_Reader_read F_A_within F_Reader_cutIntoTokens F_Reader_diaryLine F_Reader_lawLine F_Reader_shareLine F_Reader_wayLine F_Texts_clear F_Texts_take)) (x1 : Int32) {o : Option Value × PH} {Q : (Int32) → MI → Prop} (q0 : ∀ v I, Q v I → o = (some (.int v), HH I)) (I : MI) (r : Int32) (I1 : MI) (h : F_Reader_read x1 I = some (r, I1)) (hq : Q r I1) : At L X (d + 1) 67 0 [(105, .ref 93), (0, .int x1), (0, dV), (0, dV), (0, dV)] [] I o := by
  refine wf_ok z_Reader_read hcs ?_ ?_ _ _ _ _ _ ⟨rfl, trivial, trivial, trivial, trivial, trivial⟩ trivial (unm_refl _ _) ((congrFun (e_s_Reader_read_0 (L := L) (X := X) F_A_within F_Reader_cutIntoTokens F_Reader_diaryLine F_Reader_lawLine F_Reader_shareLine F_Reader_wayLine F_Texts_clear F_Texts_take K_Reader_read_46 x1) I).trans h)
  · intro pc ls st I2 h1 h2 h3 h
    rcases mC_ok h with ⟨hb, h⟩ | ⟨_, h⟩
    · have e := Nat.eq_of_beq_eq_true hb
      subst e
      obtain ⟨hst, h⟩ := mN_ok h
      subst hst
      obtain ⟨n2, h⟩ := gD_ok h
      obtain ⟨a3, n3, h⟩ := gI_ok h
      obtain ⟨n4, h⟩ := gD_ok h
      refine at_leaf (ls2 := [(105, .ref 93), (0, .int x1), (0, dV), (0, .int a3), (0, dV)]) h3.1 ⟨Or.inr ⟨_, (h3.2 0 rfl).trans rfl⟩, Or.inr ⟨_, (h3.2 1 rfl).trans rfl⟩, Or.inl ⟨rfl, n2⟩, Or.inr n3, Or.inl ⟨rfl, n4⟩, trivial⟩ ?_
      exact s_Reader_read_46 hcs x1 a3 q0 _ _ _ h hq
    cases h
  · intro v I2 _ h
    split at h
    · cases h; exact q0 _ _ hq
    · cases h
theorem w_Reader_read {d : Nat} (hcs : AllS L X d (cs_Reader_read F_A_within F_Reader_cutIntoTokens F_Reader_diaryLine F_Reader_lawLine F_Reader_shareLine F_Reader_wayLine F_Texts_clear F_Texts_take)) : Snd L X (d + 1) 67 2 (W_Reader_read F_Reader_read) := by
  refine ⟨_, z_Reader_read, rfl, fun β args k I r hty hlen h => ?_⟩
  unfold W_Reader_read at h
  split at h
  · rename_i t0 a0 u1 a1
    obtain ⟨hb0, h⟩ := mB_ok h
    have e0 := Nat.eq_of_beq_eq_true hb0
    have g0 : okB 105 a0 = true := e0 ▸ hty.1
    have e20 := one_105 g0
    subst e20
    obtain ⟨v, I1, h1, h2⟩ := bn_some h
    refine ⟨gf_obj (c := 5) (by decide) g0, rfl, some (0, .int v), I1, trivial, ?_, h2⟩
    exact s_Reader_read_0 hcs a1  (Q := fun w I => w = v ∧ I = I1) (fun w I q => by obtain ⟨rfl, rfl⟩ := q; rfl) I v I1 h1 ⟨rfl, rfl⟩
  · cases h
theorem S_Reader_read {d : Nat} (hd : 126 ≤ d) : Snd L X d 67 2 (W_Reader_read F_Reader_read) := by
  obtain ⟨e, rfl⟩ : ∃ e, d = e + 1 := ⟨d - 1, by omega⟩
  exact w_Reader_read ⟨S_A_within (by omega), S_Reader_cutIntoTokens (by omega), S_Reader_diaryLine (by omega), S_Reader_lawLine (by omega), S_Reader_shareLine (by omega), S_Reader_wayLine (by omega), S_Texts_clear (by omega), S_Texts_take (by omega), trivial⟩
set_option maxRecDepth 100000 in
theorem z_A_text : pT[66]? = some (q_A_text, 2, 4, 1, 11) := rfl
def W_A_text (F : Int32 → M Int32) : CSem := fun _ args k => match args with
  | [(t0, .ref a0), (_, .int a1)] => mB (Nat.beq t0 111) <| bn (F a1) fun v => k (some (0, .int v))
  | _ => fl
def cs_A_text (f_A_forget : M Unit) (f_Reader_read : Int32 → M Int32) : List (Nat × Nat × CSem) := [(15, 1, W_A_forget f_A_forget), (67, 2, W_Reader_read f_Reader_read)]
def K_A_text_19 (x2 : Int32) : M (Int32) :=
  (if x2 = (-1 : Int32) then
    rt x2
  else
    (if (1 : Int32) = 0 then
      rt x2
    else
      bn (F_A_forget) fun _ =>
      rt x2))
set_option maxRecDepth 4000 in
theorem e_s_A_text_19 (f_A_forget : M Unit) (f_Reader_read : Int32 → M Int32) (x2 : Int32) : wf (β := Int32) L X q_A_text 1 (cs_A_text f_A_forget f_Reader_read) [3] [19] (fun _ _ _ => fl) (fun v => match v with | some (_, .int x) => rt x | _ => fl) 29 19 [(111, .ref 0), (0, dV), (0, .int x2), (0, dV)] [] = ((if x2 = (-1 : Int32) then
    rt x2
  else
    (if (1 : Int32) = 0 then
      rt x2
    else
      bn (f_A_forget) fun _ =>
      rt x2))) := rfl
theorem s_A_text_19 {d : Nat} (hcs : AllS L X d (cs_A_text F_A_forget F_Reader_read)) (x2 : Int32) {o : Option Value × PH} {Q : (Int32) → MI → Prop} (q0 : ∀ v I, Q v I → o = (some (.int v), HH I)) (I : MI) (r : Int32) (I1 : MI) (h : K_A_text_19 x2 I = some (r, I1)) (hq : Q r I1) : At L X (d + 1) 66 19 [(111, .ref 0), (0, dV), (0, .int x2), (0, dV)] [] I o := by
  refine wf_ok z_A_text hcs ?_ ?_ _ _ _ _ _ ⟨rfl, trivial, trivial, trivial, trivial⟩ trivial (unm_refl _ _) ((congrFun (e_s_A_text_19 (L := L) (X := X) F_A_forget F_Reader_read x2) I).trans h)
  · intro pc ls st I2 h1 h2 h3 h
    cases h
  · intro v I2 _ h
    split at h
    · cases h; exact q0 _ _ hq
    · cases h
def F_A_text (x1 : Int32) : M (Int32) :=
  bn (F_Reader_read x1) fun v1 =>
  (if x1 = (1 : Int32) then
    K_A_text_19 v1
  else
    (if x1 = (2 : Int32) then
      K_A_text_19 v1
    else
      (if v1 = (-1 : Int32) then
        rt v1
      else
        (if (0 : Int32) = 0 then
          rt v1
        else
          bn (F_A_forget) fun _ =>
          rt v1))))
set_option maxRecDepth 4000 in
theorem e_s_A_text_0 (f_A_forget : M Unit) (f_Reader_read : Int32 → M Int32) (k_19 : Int32 → M (Int32)) (x1 : Int32) : wf (β := Int32) L X q_A_text 1 (cs_A_text f_A_forget f_Reader_read) [2, 3] [19] (fun pc ls st => mC (Nat.beq pc 19) (mN st <| gD ls 1 <| gI ls 2 fun a2 => gD ls 3 <| k_19 a2) (fl)) (fun v => match v with | some (_, .int x) => rt x | _ => fl) 29 0 [(111, .ref 0), (0, .int x1), (0, dV), (0, dV)] [] = (bn (f_Reader_read x1) fun v1 =>
  (if x1 = (1 : Int32) then
    k_19 v1
  else
    (if x1 = (2 : Int32) then
      k_19 v1
    else
      (if v1 = (-1 : Int32) then
        rt v1
      else
        (if (0 : Int32) = 0 then
          rt v1
        else
          bn (f_A_forget) fun _ =>
          rt v1))))) := rfl
theorem s_A_text_0 {d : Nat} (hcs : AllS L X d (cs_A_text F_A_forget F_Reader_read)) (x1 : Int32) {o : Option Value × PH} {Q : (Int32) → MI → Prop} (q0 : ∀ v I, Q v I → o = (some (.int v), HH I)) (I : MI) (r : Int32) (I1 : MI) (h : F_A_text x1 I = some (r, I1)) (hq : Q r I1) : At L X (d + 1) 66 0 [(111, .ref 0), (0, .int x1), (0, dV), (0, dV)] [] I o := by
  refine wf_ok z_A_text hcs ?_ ?_ _ _ _ _ _ ⟨rfl, trivial, trivial, trivial, trivial⟩ trivial (unm_refl _ _) ((congrFun (e_s_A_text_0 (L := L) (X := X) F_A_forget F_Reader_read K_A_text_19 x1) I).trans h)
  · intro pc ls st I2 h1 h2 h3 h
    rcases mC_ok h with ⟨hb, h⟩ | ⟨_, h⟩
    · have e := Nat.eq_of_beq_eq_true hb
      subst e
      obtain ⟨hst, h⟩ := mN_ok h
      subst hst
      obtain ⟨n1, h⟩ := gD_ok h
      obtain ⟨a2, n2, h⟩ := gI_ok h
      obtain ⟨n3, h⟩ := gD_ok h
      refine at_leaf (ls2 := [(111, .ref 0), (0, dV), (0, .int a2), (0, dV)]) h3.1 ⟨Or.inr ⟨_, (h3.2 0 rfl).trans rfl⟩, Or.inl ⟨rfl, n1⟩, Or.inr n2, Or.inl ⟨rfl, n3⟩, trivial⟩ ?_
      exact s_A_text_19 hcs a2 q0 _ _ _ h hq
    cases h
  · intro v I2 _ h
    split at h
    · cases h; exact q0 _ _ hq
    · cases h
theorem w_A_text {d : Nat} (hcs : AllS L X d (cs_A_text F_A_forget F_Reader_read)) : Snd L X (d + 1) 66 2 (W_A_text F_A_text) := by
  refine ⟨_, z_A_text, rfl, fun β args k I r hty hlen h => ?_⟩
  unfold W_A_text at h
  split at h
  · rename_i t0 a0 u1 a1
    obtain ⟨hb0, h⟩ := mB_ok h
    have e0 := Nat.eq_of_beq_eq_true hb0
    have g0 : okB 111 a0 = true := e0 ▸ hty.1
    have e20 := one_111 g0
    subst e20
    obtain ⟨v, I1, h1, h2⟩ := bn_some h
    refine ⟨gf_obj (c := 11) (by decide) g0, rfl, some (0, .int v), I1, trivial, ?_, h2⟩
    exact s_A_text_0 hcs a1  (Q := fun w I => w = v ∧ I = I1) (fun w I q => by obtain ⟨rfl, rfl⟩ := q; rfl) I v I1 h1 ⟨rfl, rfl⟩
  · cases h
theorem S_A_text {d : Nat} (hd : 127 ≤ d) : Snd L X d 66 2 (W_A_text F_A_text) := by
  obtain ⟨e, rfl⟩ : ∃ e, d = e + 1 := ⟨d - 1, by omega⟩
  exact w_A_text ⟨S_A_forget (by omega), S_Reader_read (by omega), trivial⟩
set_option maxRecDepth 100000 in
theorem z_A_undo : pT[184]? = some (q_A_undo, 1, 1, 2, 11) := rfl
def W_A_undo (F : M Int32) : CSem := fun _ args k => match args with
  | [(t0, .ref a0)] => mB (Nat.beq t0 111) <| bn (F) fun v => k (some (0, .int v))
  | _ => fl
def cs_A_undo (f_World_become : Nat → Nat → M Unit) : List (Nat × Nat × CSem) := [(28, 2, W_World_become f_World_become)]
def F_A_undo : M (Int32) :=
  bn (rd 0 9) fun v1 =>
  (if v1 = 0 then
    bn (gdZ (0 : Int32)) fun _ => rt (0 : Int32)
  else
    bn (rd 0 8) fun v2 =>
    dvI (6 : Int32) <|
    bn (wr 0 8 (((v2 + (6 : Int32)) - (1 : Int32)) - ((v2 + (6 : Int32)) - (1 : Int32)) / (6 : Int32) * (6 : Int32))) fun _ =>
    bn (rd 0 9) fun v3 =>
    bn (wr 0 9 (v3 - (1 : Int32))) fun _ =>
    bn (rd 0 8) fun v4 =>
    bn (gd (inR v4 6)) fun _ =>
    bn (F_World_become 2 (124 + 11 * (v4).toNatClampNeg)) fun _ =>
    bn (gdZ (1 : Int32)) fun _ => rt (1 : Int32))
set_option maxRecDepth 4000 in
theorem e_s_A_undo_0 (f_World_become : Nat → Nat → M Unit) : wf (β := Int32) L X q_A_undo 2 (cs_A_undo f_World_become) [] [] (fun _ _ _ => fl) (fun v => match v with | some (_, .int x) => rt x | _ => fl) 37 0 [(111, .ref 0)] [] = (bn (rd 0 9) fun v1 =>
  (if v1 = 0 then
    bn (gdZ (0 : Int32)) fun _ => rt (0 : Int32)
  else
    bn (rd 0 8) fun v2 =>
    dvI (6 : Int32) <|
    bn (wr 0 8 (((v2 + (6 : Int32)) - (1 : Int32)) - ((v2 + (6 : Int32)) - (1 : Int32)) / (6 : Int32) * (6 : Int32))) fun _ =>
    bn (rd 0 9) fun v3 =>
    bn (wr 0 9 (v3 - (1 : Int32))) fun _ =>
    bn (rd 0 8) fun v4 =>
    bn (gd (inR v4 6)) fun _ =>
    bn (f_World_become 2 (124 + 11 * (v4).toNatClampNeg)) fun _ =>
    bn (gdZ (1 : Int32)) fun _ => rt (1 : Int32))) := rfl
theorem s_A_undo_0 {d : Nat} (hcs : AllS L X d (cs_A_undo F_World_become)) {o : Option Value × PH} {Q : (Int32) → MI → Prop} (q0 : ∀ v I, Q v I → o = (some (.int v), HH I)) (I : MI) (r : Int32) (I1 : MI) (h : F_A_undo I = some (r, I1)) (hq : Q r I1) : At L X (d + 1) 184 0 [(111, .ref 0)] [] I o := by
  refine wf_ok z_A_undo hcs ?_ ?_ _ _ _ _ _ ⟨rfl, trivial⟩ trivial (unm_refl _ _) ((congrFun (e_s_A_undo_0 (L := L) (X := X) F_World_become) I).trans h)
  · intro pc ls st I2 h1 h2 h3 h
    cases h
  · intro v I2 _ h
    split at h
    · cases h; exact q0 _ _ hq
    · cases h
theorem w_A_undo {d : Nat} (hcs : AllS L X d (cs_A_undo F_World_become)) : Snd L X (d + 1) 184 1 (W_A_undo F_A_undo) := by
  refine ⟨_, z_A_undo, rfl, fun β args k I r hty hlen h => ?_⟩
  unfold W_A_undo at h
  split at h
  · rename_i t0 a0
    obtain ⟨hb0, h⟩ := mB_ok h
    have e0 := Nat.eq_of_beq_eq_true hb0
    have g0 : okB 111 a0 = true := e0 ▸ hty.1
    have e20 := one_111 g0
    subst e20
    obtain ⟨v, I1, h1, h2⟩ := bn_some h
    refine ⟨gf_obj (c := 11) (by decide) g0, rfl, some (0, .int v), I1, trivial, ?_, h2⟩
    exact s_A_undo_0 hcs   (Q := fun w I => w = v ∧ I = I1) (fun w I q => by obtain ⟨rfl, rfl⟩ := q; rfl) I v I1 h1 ⟨rfl, rfl⟩
  · cases h
theorem S_A_undo {d : Nat} (hd : 2 ≤ d) : Snd L X d 184 1 (W_A_undo F_A_undo) := by
  obtain ⟨e, rfl⟩ : ∃ e, d = e + 1 := ⟨d - 1, by omega⟩
  exact w_A_undo ⟨S_World_become (by omega), trivial⟩
set_option maxRecDepth 100000 in
theorem z_A_vote : pT[146]? = some (q_A_vote, 2, 2, 1, 11) := rfl
def W_A_vote (F : Int32 → M Int32) : CSem := fun _ args k => match args with
  | [(t0, .ref a0), (_, .int a1)] => mB (Nat.beq t0 111) <| bn (F a1) fun v => k (some (0, .int v))
  | _ => fl
def cs_A_vote (f_A_within : Int32 → Int32 → Int32 → M Int32) (f_Table_put : Nat → Int32 → Int32 → Int32 → M Int32) (f_Table_wipe : Nat → M Int32) : List (Nat × Nat × CSem) := [(18, 3, W_A_within f_A_within), (106, 4, W_Table_put f_Table_put), (77, 1, W_Table_wipe f_Table_wipe)]
def F_A_vote (x1 : Int32) : M (Int32) :=
  (if x1 = (-1 : Int32) then
    bn (F_Table_wipe 33) fun v3 =>
    rt v3
  else
    bn (F_A_within x1 (1 : Int32) (30 : Int32)) fun v1 =>
    (if v1 = 0 then
      rt (-1 : Int32)
    else
      bn (F_Table_put 33 x1 (0 : Int32) (0 : Int32)) fun v2 =>
      rt v2))
set_option maxRecDepth 4000 in
theorem e_s_A_vote_0 (f_A_within : Int32 → Int32 → Int32 → M Int32) (f_Table_put : Nat → Int32 → Int32 → Int32 → M Int32) (f_Table_wipe : Nat → M Int32) (x1 : Int32) : wf (β := Int32) L X q_A_vote 1 (cs_A_vote f_A_within f_Table_put f_Table_wipe) [] [] (fun _ _ _ => fl) (fun v => match v with | some (_, .int x) => rt x | _ => fl) 28 0 [(111, .ref 0), (0, .int x1)] [] = ((if x1 = (-1 : Int32) then
    bn (f_Table_wipe 33) fun v3 =>
    rt v3
  else
    bn (f_A_within x1 (1 : Int32) (30 : Int32)) fun v1 =>
    (if v1 = 0 then
      rt (-1 : Int32)
    else
      bn (f_Table_put 33 x1 (0 : Int32) (0 : Int32)) fun v2 =>
      rt v2))) := rfl
theorem s_A_vote_0 {d : Nat} (hcs : AllS L X d (cs_A_vote F_A_within F_Table_put F_Table_wipe)) (x1 : Int32) {o : Option Value × PH} {Q : (Int32) → MI → Prop} (q0 : ∀ v I, Q v I → o = (some (.int v), HH I)) (I : MI) (r : Int32) (I1 : MI) (h : F_A_vote x1 I = some (r, I1)) (hq : Q r I1) : At L X (d + 1) 146 0 [(111, .ref 0), (0, .int x1)] [] I o := by
  refine wf_ok z_A_vote hcs ?_ ?_ _ _ _ _ _ ⟨rfl, trivial, trivial⟩ trivial (unm_refl _ _) ((congrFun (e_s_A_vote_0 (L := L) (X := X) F_A_within F_Table_put F_Table_wipe x1) I).trans h)
  · intro pc ls st I2 h1 h2 h3 h
    cases h
  · intro v I2 _ h
    split at h
    · cases h; exact q0 _ _ hq
    · cases h
theorem w_A_vote {d : Nat} (hcs : AllS L X d (cs_A_vote F_A_within F_Table_put F_Table_wipe)) : Snd L X (d + 1) 146 2 (W_A_vote F_A_vote) := by
  refine ⟨_, z_A_vote, rfl, fun β args k I r hty hlen h => ?_⟩
  unfold W_A_vote at h
  split at h
  · rename_i t0 a0 u1 a1
    obtain ⟨hb0, h⟩ := mB_ok h
    have e0 := Nat.eq_of_beq_eq_true hb0
    have g0 : okB 111 a0 = true := e0 ▸ hty.1
    have e20 := one_111 g0
    subst e20
    obtain ⟨v, I1, h1, h2⟩ := bn_some h
    refine ⟨gf_obj (c := 11) (by decide) g0, rfl, some (0, .int v), I1, trivial, ?_, h2⟩
    exact s_A_vote_0 hcs a1  (Q := fun w I => w = v ∧ I = I1) (fun w I q => by obtain ⟨rfl, rfl⟩ := q; rfl) I v I1 h1 ⟨rfl, rfl⟩
  · cases h
theorem S_A_vote {d : Nat} (hd : 4 ≤ d) : Snd L X d 146 2 (W_A_vote F_A_vote) := by
  obtain ⟨e, rfl⟩ : ∃ e, d = e + 1 := ⟨d - 1, by omega⟩
  exact w_A_vote ⟨S_A_within (by omega), S_Table_put (by omega), S_Table_wipe (by omega), trivial⟩
set_option maxRecDepth 100000 in
theorem z_A_who : pT[112]? = some (q_A_who, 3, 4, 1, 11) := rfl
def W_A_who (F : Int32 → Int32 → M Int32) : CSem := fun _ args k => match args with
  | [(t0, .ref a0), (_, .int a1), (_, .int a2)] => mB (Nat.beq t0 111) <| bn (F a1 a2) fun v => k (some (0, .int v))
  | _ => fl
def cs_A_who (f_World_aliasesOf : Nat → Int32 → Int32 → M Int32) (f_World_isPerson : Nat → Int32 → M Int32) : List (Nat × Nat × CSem) := [(58, 3, W_World_aliasesOf f_World_aliasesOf), (21, 2, W_World_isPerson f_World_isPerson)]
def F_A_who (x1 : Int32) (x2 : Int32) : M (Int32) :=
  bn (F_World_isPerson 2 x1) fun v1 =>
  (if v1 = 0 then
    rt (-1 : Int32)
  else
    (if x2 = (0 : Int32) then
      bn (ld 6 4 x1) fun v2 =>
      rt v2
    else (if x2 = (1 : Int32) then
      bn (ld 6 5 x1) fun v3 =>
      rt v3
    else (if x2 = (2 : Int32) then
      bn (F_World_aliasesOf 2 x1 (0 : Int32)) fun v4 =>
      rt v4
    else (if x2 = (3 : Int32) then
      bn (F_World_aliasesOf 2 x1 (1 : Int32)) fun v5 =>
      rt v5
    else rt (-1 : Int32))))))
set_option maxRecDepth 4000 in
theorem e_s_A_who_0 (f_World_aliasesOf : Nat → Int32 → Int32 → M Int32) (f_World_isPerson : Nat → Int32 → M Int32) (x1 : Int32) (x2 : Int32) : wf (β := Int32) L X q_A_who 1 (cs_A_who f_World_aliasesOf f_World_isPerson) [3] [] (fun _ _ _ => fl) (fun v => match v with | some (_, .int x) => rt x | _ => fl) 39 0 [(111, .ref 0), (0, .int x1), (0, .int x2), (0, dV)] [] = (bn (f_World_isPerson 2 x1) fun v1 =>
  (if v1 = 0 then
    rt (-1 : Int32)
  else
    (if x2 = (0 : Int32) then
      bn (ld 6 4 x1) fun v2 =>
      rt v2
    else (if x2 = (1 : Int32) then
      bn (ld 6 5 x1) fun v3 =>
      rt v3
    else (if x2 = (2 : Int32) then
      bn (f_World_aliasesOf 2 x1 (0 : Int32)) fun v4 =>
      rt v4
    else (if x2 = (3 : Int32) then
      bn (f_World_aliasesOf 2 x1 (1 : Int32)) fun v5 =>
      rt v5
    else rt (-1 : Int32))))))) := rfl
theorem s_A_who_0 {d : Nat} (hcs : AllS L X d (cs_A_who F_World_aliasesOf F_World_isPerson)) (x1 : Int32) (x2 : Int32) {o : Option Value × PH} {Q : (Int32) → MI → Prop} (q0 : ∀ v I, Q v I → o = (some (.int v), HH I)) (I : MI) (r : Int32) (I1 : MI) (h : F_A_who x1 x2 I = some (r, I1)) (hq : Q r I1) : At L X (d + 1) 112 0 [(111, .ref 0), (0, .int x1), (0, .int x2), (0, dV)] [] I o := by
  refine wf_ok z_A_who hcs ?_ ?_ _ _ _ _ _ ⟨rfl, trivial, trivial, trivial, trivial⟩ trivial (unm_refl _ _) ((congrFun (e_s_A_who_0 (L := L) (X := X) F_World_aliasesOf F_World_isPerson x1 x2) I).trans h)
  · intro pc ls st I2 h1 h2 h3 h
    cases h
  · intro v I2 _ h
    split at h
    · cases h; exact q0 _ _ hq
    · cases h
theorem w_A_who {d : Nat} (hcs : AllS L X d (cs_A_who F_World_aliasesOf F_World_isPerson)) : Snd L X (d + 1) 112 3 (W_A_who F_A_who) := by
  refine ⟨_, z_A_who, rfl, fun β args k I r hty hlen h => ?_⟩
  unfold W_A_who at h
  split at h
  · rename_i t0 a0 u1 a1 u2 a2
    obtain ⟨hb0, h⟩ := mB_ok h
    have e0 := Nat.eq_of_beq_eq_true hb0
    have g0 : okB 111 a0 = true := e0 ▸ hty.1
    have e20 := one_111 g0
    subst e20
    obtain ⟨v, I1, h1, h2⟩ := bn_some h
    refine ⟨gf_obj (c := 11) (by decide) g0, rfl, some (0, .int v), I1, trivial, ?_, h2⟩
    exact s_A_who_0 hcs a1 a2  (Q := fun w I => w = v ∧ I = I1) (fun w I q => by obtain ⟨rfl, rfl⟩ := q; rfl) I v I1 h1 ⟨rfl, rfl⟩
  · cases h
theorem S_A_who {d : Nat} (hd : 2 ≤ d) : Snd L X d 112 3 (W_A_who F_A_who) := by
  obtain ⟨e, rfl⟩ : ∃ e, d = e + 1 := ⟨d - 1, by omega⟩
  exact w_A_who ⟨S_World_aliasesOf (by omega), S_World_isPerson (by omega), trivial⟩
set_option maxRecDepth 100000 in
theorem z_R_isAlias : pT[201]? = some (q_R_isAlias, 2, 2, 2, 12) := rfl
def W_R_isAlias (F : Int32 → M Int32) : CSem := fun _ args k => match args with
  | [(t0, .ref a0), (_, .int a1)] => mB (Nat.beq t0 112) <| bn (F a1) fun v => k (some (0, .int v))
  | _ => fl
def cs_R_isAlias : List (Nat × Nat × CSem) := []
def F_R_isAlias (x1 : Int32) : M (Int32) :=
  (if x1 < 0 then
    bn (gdZ (0 : Int32)) fun _ => rt (0 : Int32)
  else
    bn (rd 207 7) fun v1 =>
    (if x1 < v1 then
      bn (gdZ (1 : Int32)) fun _ => rt (1 : Int32)
    else
      bn (gdZ (0 : Int32)) fun _ => rt (0 : Int32)))
set_option maxRecDepth 4000 in
theorem e_s_R_isAlias_0 (x1 : Int32) : wf (β := Int32) L X q_R_isAlias 2 cs_R_isAlias [] [] (fun _ _ _ => fl) (fun v => match v with | some (_, .int x) => rt x | _ => fl) 15 0 [(112, .ref 207), (0, .int x1)] [] = ((if x1 < 0 then
    bn (gdZ (0 : Int32)) fun _ => rt (0 : Int32)
  else
    bn (rd 207 7) fun v1 =>
    (if x1 < v1 then
      bn (gdZ (1 : Int32)) fun _ => rt (1 : Int32)
    else
      bn (gdZ (0 : Int32)) fun _ => rt (0 : Int32)))) := rfl
theorem s_R_isAlias_0 {d : Nat} (hcs : AllS L X d cs_R_isAlias) (x1 : Int32) {o : Option Value × PH} {Q : (Int32) → MI → Prop} (q0 : ∀ v I, Q v I → o = (some (.int v), HH I)) (I : MI) (r : Int32) (I1 : MI) (h : F_R_isAlias x1 I = some (r, I1)) (hq : Q r I1) : At L X (d + 1) 201 0 [(112, .ref 207), (0, .int x1)] [] I o := by
  refine wf_ok z_R_isAlias hcs ?_ ?_ _ _ _ _ _ ⟨rfl, trivial, trivial⟩ trivial (unm_refl _ _) ((congrFun (e_s_R_isAlias_0 (L := L) (X := X) x1) I).trans h)
  · intro pc ls st I2 h1 h2 h3 h
    cases h
  · intro v I2 _ h
    split at h
    · cases h; exact q0 _ _ hq
    · cases h
theorem w_R_isAlias {d : Nat} (hcs : AllS L X d cs_R_isAlias) : Snd L X (d + 1) 201 2 (W_R_isAlias F_R_isAlias) := by
  refine ⟨_, z_R_isAlias, rfl, fun β args k I r hty hlen h => ?_⟩
  unfold W_R_isAlias at h
  split at h
  · rename_i t0 a0 u1 a1
    obtain ⟨hb0, h⟩ := mB_ok h
    have e0 := Nat.eq_of_beq_eq_true hb0
    have g0 : okB 112 a0 = true := e0 ▸ hty.1
    have e20 := one_112 g0
    subst e20
    obtain ⟨v, I1, h1, h2⟩ := bn_some h
    refine ⟨gf_obj (c := 12) (by decide) g0, rfl, some (0, .int v), I1, trivial, ?_, h2⟩
    exact s_R_isAlias_0 hcs a1  (Q := fun w I => w = v ∧ I = I1) (fun w I q => by obtain ⟨rfl, rfl⟩ := q; rfl) I v I1 h1 ⟨rfl, rfl⟩
  · cases h
theorem S_R_isAlias {d : Nat} (hd : 1 ≤ d) : Snd L X d 201 2 (W_R_isAlias F_R_isAlias) := by
  obtain ⟨e, rfl⟩ : ∃ e, d = e + 1 := ⟨d - 1, by omega⟩
  exact w_R_isAlias trivial
set_option maxRecDepth 100000 in
theorem z_R_isOut : pT[252]? = some (q_R_isOut, 2, 2, 2, 12) := rfl
def W_R_isOut (F : Int32 → M Int32) : CSem := fun _ args k => match args with
  | [(t0, .ref a0), (_, .int a1)] => mB (Nat.beq t0 112) <| bn (F a1) fun v => k (some (0, .int v))
  | _ => fl
def cs_R_isOut : List (Nat × Nat × CSem) := []
def F_R_isOut (x1 : Int32) : M (Int32) :=
  bn (ld 95 208 ((41 : Int32) + x1)) fun v1 =>
  (if v1 = (1 : Int32) then
    bn (gdZ (1 : Int32)) fun _ => rt (1 : Int32)
  else
    bn (gdZ (0 : Int32)) fun _ => rt (0 : Int32))
set_option maxRecDepth 4000 in
theorem e_s_R_isOut_0 (x1 : Int32) : wf (β := Int32) L X q_R_isOut 2 cs_R_isOut [] [] (fun _ _ _ => fl) (fun v => match v with | some (_, .int x) => rt x | _ => fl) 17 0 [(112, .ref 207), (0, .int x1)] [] = (bn (ld 95 208 ((41 : Int32) + x1)) fun v1 =>
  (if v1 = (1 : Int32) then
    bn (gdZ (1 : Int32)) fun _ => rt (1 : Int32)
  else
    bn (gdZ (0 : Int32)) fun _ => rt (0 : Int32))) := rfl
theorem s_R_isOut_0 {d : Nat} (hcs : AllS L X d cs_R_isOut) (x1 : Int32) {o : Option Value × PH} {Q : (Int32) → MI → Prop} (q0 : ∀ v I, Q v I → o = (some (.int v), HH I)) (I : MI) (r : Int32) (I1 : MI) (h : F_R_isOut x1 I = some (r, I1)) (hq : Q r I1) : At L X (d + 1) 252 0 [(112, .ref 207), (0, .int x1)] [] I o := by
  refine wf_ok z_R_isOut hcs ?_ ?_ _ _ _ _ _ ⟨rfl, trivial, trivial⟩ trivial (unm_refl _ _) ((congrFun (e_s_R_isOut_0 (L := L) (X := X) x1) I).trans h)
  · intro pc ls st I2 h1 h2 h3 h
    cases h
  · intro v I2 _ h
    split at h
    · cases h; exact q0 _ _ hq
    · cases h
theorem w_R_isOut {d : Nat} (hcs : AllS L X d cs_R_isOut) : Snd L X (d + 1) 252 2 (W_R_isOut F_R_isOut) := by
  refine ⟨_, z_R_isOut, rfl, fun β args k I r hty hlen h => ?_⟩
  unfold W_R_isOut at h
  split at h
  · rename_i t0 a0 u1 a1
    obtain ⟨hb0, h⟩ := mB_ok h
    have e0 := Nat.eq_of_beq_eq_true hb0
    have g0 : okB 112 a0 = true := e0 ▸ hty.1
    have e20 := one_112 g0
    subst e20
    obtain ⟨v, I1, h1, h2⟩ := bn_some h
    refine ⟨gf_obj (c := 12) (by decide) g0, rfl, some (0, .int v), I1, trivial, ?_, h2⟩
    exact s_R_isOut_0 hcs a1  (Q := fun w I => w = v ∧ I = I1) (fun w I q => by obtain ⟨rfl, rfl⟩ := q; rfl) I v I1 h1 ⟨rfl, rfl⟩
  · cases h
theorem S_R_isOut {d : Nat} (hd : 1 ≤ d) : Snd L X d 252 2 (W_R_isOut F_R_isOut) := by
  obtain ⟨e, rfl⟩ : ∃ e, d = e + 1 := ⟨d - 1, by omega⟩
  exact w_R_isOut trivial
set_option maxRecDepth 100000 in
theorem z_R_isPerson : pT[197]? = some (q_R_isPerson, 2, 2, 2, 12) := rfl
def W_R_isPerson (F : Int32 → M Int32) : CSem := fun _ args k => match args with
  | [(t0, .ref a0), (_, .int a1)] => mB (Nat.beq t0 112) <| bn (F a1) fun v => k (some (0, .int v))
  | _ => fl
def cs_R_isPerson : List (Nat × Nat × CSem) := []
def F_R_isPerson (x1 : Int32) : M (Int32) :=
  (if x1 < 0 then
    bn (gdZ (0 : Int32)) fun _ => rt (0 : Int32)
  else
    bn (rd 207 6) fun v1 =>
    (if x1 < v1 then
      bn (gdZ (1 : Int32)) fun _ => rt (1 : Int32)
    else
      bn (gdZ (0 : Int32)) fun _ => rt (0 : Int32)))
set_option maxRecDepth 4000 in
theorem e_s_R_isPerson_0 (x1 : Int32) : wf (β := Int32) L X q_R_isPerson 2 cs_R_isPerson [] [] (fun _ _ _ => fl) (fun v => match v with | some (_, .int x) => rt x | _ => fl) 15 0 [(112, .ref 207), (0, .int x1)] [] = ((if x1 < 0 then
    bn (gdZ (0 : Int32)) fun _ => rt (0 : Int32)
  else
    bn (rd 207 6) fun v1 =>
    (if x1 < v1 then
      bn (gdZ (1 : Int32)) fun _ => rt (1 : Int32)
    else
      bn (gdZ (0 : Int32)) fun _ => rt (0 : Int32)))) := rfl
theorem s_R_isPerson_0 {d : Nat} (hcs : AllS L X d cs_R_isPerson) (x1 : Int32) {o : Option Value × PH} {Q : (Int32) → MI → Prop} (q0 : ∀ v I, Q v I → o = (some (.int v), HH I)) (I : MI) (r : Int32) (I1 : MI) (h : F_R_isPerson x1 I = some (r, I1)) (hq : Q r I1) : At L X (d + 1) 197 0 [(112, .ref 207), (0, .int x1)] [] I o := by
  refine wf_ok z_R_isPerson hcs ?_ ?_ _ _ _ _ _ ⟨rfl, trivial, trivial⟩ trivial (unm_refl _ _) ((congrFun (e_s_R_isPerson_0 (L := L) (X := X) x1) I).trans h)
  · intro pc ls st I2 h1 h2 h3 h
    cases h
  · intro v I2 _ h
    split at h
    · cases h; exact q0 _ _ hq
    · cases h
theorem w_R_isPerson {d : Nat} (hcs : AllS L X d cs_R_isPerson) : Snd L X (d + 1) 197 2 (W_R_isPerson F_R_isPerson) := by
  refine ⟨_, z_R_isPerson, rfl, fun β args k I r hty hlen h => ?_⟩
  unfold W_R_isPerson at h
  split at h
  · rename_i t0 a0 u1 a1
    obtain ⟨hb0, h⟩ := mB_ok h
    have e0 := Nat.eq_of_beq_eq_true hb0
    have g0 : okB 112 a0 = true := e0 ▸ hty.1
    have e20 := one_112 g0
    subst e20
    obtain ⟨v, I1, h1, h2⟩ := bn_some h
    refine ⟨gf_obj (c := 12) (by decide) g0, rfl, some (0, .int v), I1, trivial, ?_, h2⟩
    exact s_R_isPerson_0 hcs a1  (Q := fun w I => w = v ∧ I = I1) (fun w I q => by obtain ⟨rfl, rfl⟩ := q; rfl) I v I1 h1 ⟨rfl, rfl⟩
  · cases h
theorem S_R_isPerson {d : Nat} (hd : 1 ≤ d) : Snd L X d 197 2 (W_R_isPerson F_R_isPerson) := by
  obtain ⟨e, rfl⟩ : ∃ e, d = e + 1 := ⟨d - 1, by omega⟩
  exact w_R_isPerson trivial
set_option maxRecDepth 100000 in
theorem z_R_isStreet : pT[198]? = some (q_R_isStreet, 2, 2, 2, 12) := rfl
def W_R_isStreet (F : Int32 → M Int32) : CSem := fun _ args k => match args with
  | [(t0, .ref a0), (_, .int a1)] => mB (Nat.beq t0 112) <| bn (F a1) fun v => k (some (0, .int v))
  | _ => fl
def cs_R_isStreet : List (Nat × Nat × CSem) := []
def F_R_isStreet (x1 : Int32) : M (Int32) :=
  (if x1 < 0 then
    bn (gdZ (0 : Int32)) fun _ => rt (0 : Int32)
  else
    (if x1 < (10 : Int32) then
      bn (gdZ (1 : Int32)) fun _ => rt (1 : Int32)
    else
      bn (gdZ (0 : Int32)) fun _ => rt (0 : Int32)))
set_option maxRecDepth 4000 in
theorem e_s_R_isStreet_0 (x1 : Int32) : wf (β := Int32) L X q_R_isStreet 2 cs_R_isStreet [] [] (fun _ _ _ => fl) (fun v => match v with | some (_, .int x) => rt x | _ => fl) 14 0 [(112, .ref 207), (0, .int x1)] [] = ((if x1 < 0 then
    bn (gdZ (0 : Int32)) fun _ => rt (0 : Int32)
  else
    (if x1 < (10 : Int32) then
      bn (gdZ (1 : Int32)) fun _ => rt (1 : Int32)
    else
      bn (gdZ (0 : Int32)) fun _ => rt (0 : Int32)))) := rfl
theorem s_R_isStreet_0 {d : Nat} (hcs : AllS L X d cs_R_isStreet) (x1 : Int32) {o : Option Value × PH} {Q : (Int32) → MI → Prop} (q0 : ∀ v I, Q v I → o = (some (.int v), HH I)) (I : MI) (r : Int32) (I1 : MI) (h : F_R_isStreet x1 I = some (r, I1)) (hq : Q r I1) : At L X (d + 1) 198 0 [(112, .ref 207), (0, .int x1)] [] I o := by
  refine wf_ok z_R_isStreet hcs ?_ ?_ _ _ _ _ _ ⟨rfl, trivial, trivial⟩ trivial (unm_refl _ _) ((congrFun (e_s_R_isStreet_0 (L := L) (X := X) x1) I).trans h)
  · intro pc ls st I2 h1 h2 h3 h
    cases h
  · intro v I2 _ h
    split at h
    · cases h; exact q0 _ _ hq
    · cases h
theorem w_R_isStreet {d : Nat} (hcs : AllS L X d cs_R_isStreet) : Snd L X (d + 1) 198 2 (W_R_isStreet F_R_isStreet) := by
  refine ⟨_, z_R_isStreet, rfl, fun β args k I r hty hlen h => ?_⟩
  unfold W_R_isStreet at h
  split at h
  · rename_i t0 a0 u1 a1
    obtain ⟨hb0, h⟩ := mB_ok h
    have e0 := Nat.eq_of_beq_eq_true hb0
    have g0 : okB 112 a0 = true := e0 ▸ hty.1
    have e20 := one_112 g0
    subst e20
    obtain ⟨v, I1, h1, h2⟩ := bn_some h
    refine ⟨gf_obj (c := 12) (by decide) g0, rfl, some (0, .int v), I1, trivial, ?_, h2⟩
    exact s_R_isStreet_0 hcs a1  (Q := fun w I => w = v ∧ I = I1) (fun w I q => by obtain ⟨rfl, rfl⟩ := q; rfl) I v I1 h1 ⟨rfl, rfl⟩
  · cases h
theorem S_R_isStreet {d : Nat} (hd : 1 ≤ d) : Snd L X d 198 2 (W_R_isStreet F_R_isStreet) := by
  obtain ⟨e, rfl⟩ : ∃ e, d = e + 1 := ⟨d - 1, by omega⟩
  exact w_R_isStreet trivial
set_option maxRecDepth 100000 in
theorem z_R_isStruck : pT[246]? = some (q_R_isStruck, 2, 2, 2, 12) := rfl
def W_R_isStruck (F : Int32 → M Int32) : CSem := fun _ args k => match args with
  | [(t0, .ref a0), (_, .int a1)] => mB (Nat.beq t0 112) <| bn (F a1) fun v => k (some (0, .int v))
  | _ => fl
def cs_R_isStruck : List (Nat × Nat × CSem) := []
def F_R_isStruck (x1 : Int32) : M (Int32) :=
  bn (ld 95 208 ((77 : Int32) + x1)) fun v1 =>
  (if v1 = (1 : Int32) then
    bn (gdZ (1 : Int32)) fun _ => rt (1 : Int32)
  else
    bn (gdZ (0 : Int32)) fun _ => rt (0 : Int32))
set_option maxRecDepth 4000 in
theorem e_s_R_isStruck_0 (x1 : Int32) : wf (β := Int32) L X q_R_isStruck 2 cs_R_isStruck [] [] (fun _ _ _ => fl) (fun v => match v with | some (_, .int x) => rt x | _ => fl) 17 0 [(112, .ref 207), (0, .int x1)] [] = (bn (ld 95 208 ((77 : Int32) + x1)) fun v1 =>
  (if v1 = (1 : Int32) then
    bn (gdZ (1 : Int32)) fun _ => rt (1 : Int32)
  else
    bn (gdZ (0 : Int32)) fun _ => rt (0 : Int32))) := rfl
theorem s_R_isStruck_0 {d : Nat} (hcs : AllS L X d cs_R_isStruck) (x1 : Int32) {o : Option Value × PH} {Q : (Int32) → MI → Prop} (q0 : ∀ v I, Q v I → o = (some (.int v), HH I)) (I : MI) (r : Int32) (I1 : MI) (h : F_R_isStruck x1 I = some (r, I1)) (hq : Q r I1) : At L X (d + 1) 246 0 [(112, .ref 207), (0, .int x1)] [] I o := by
  refine wf_ok z_R_isStruck hcs ?_ ?_ _ _ _ _ _ ⟨rfl, trivial, trivial⟩ trivial (unm_refl _ _) ((congrFun (e_s_R_isStruck_0 (L := L) (X := X) x1) I).trans h)
  · intro pc ls st I2 h1 h2 h3 h
    cases h
  · intro v I2 _ h
    split at h
    · cases h; exact q0 _ _ hq
    · cases h
theorem w_R_isStruck {d : Nat} (hcs : AllS L X d cs_R_isStruck) : Snd L X (d + 1) 246 2 (W_R_isStruck F_R_isStruck) := by
  refine ⟨_, z_R_isStruck, rfl, fun β args k I r hty hlen h => ?_⟩
  unfold W_R_isStruck at h
  split at h
  · rename_i t0 a0 u1 a1
    obtain ⟨hb0, h⟩ := mB_ok h
    have e0 := Nat.eq_of_beq_eq_true hb0
    have g0 : okB 112 a0 = true := e0 ▸ hty.1
    have e20 := one_112 g0
    subst e20
    obtain ⟨v, I1, h1, h2⟩ := bn_some h
    refine ⟨gf_obj (c := 12) (by decide) g0, rfl, some (0, .int v), I1, trivial, ?_, h2⟩
    exact s_R_isStruck_0 hcs a1  (Q := fun w I => w = v ∧ I = I1) (fun w I q => by obtain ⟨rfl, rfl⟩ := q; rfl) I v I1 h1 ⟨rfl, rfl⟩
  · cases h
theorem S_R_isStruck {d : Nat} (hd : 1 ≤ d) : Snd L X d 246 2 (W_R_isStruck F_R_isStruck) := by
  obtain ⟨e, rfl⟩ : ∃ e, d = e + 1 := ⟨d - 1, by omega⟩
  exact w_R_isStruck trivial
set_option maxRecDepth 100000 in
theorem z_R_canAct : pT[271]? = some (q_R_canAct, 4, 4, 2, 12) := rfl
def W_R_canAct (F : Int32 → Int32 → Int32 → M Int32) : CSem := fun _ args k => match args with
  | [(t0, .ref a0), (_, .int a1), (_, .int a2), (_, .int a3)] => mB (Nat.beq t0 112) <| bn (F a1 a2 a3) fun v => k (some (0, .int v))
  | _ => fl
def cs_R_canAct (f_R_isAlias : Int32 → M Int32) (f_R_isOut : Int32 → M Int32) (f_R_isPerson : Int32 → M Int32) (f_R_isStreet : Int32 → M Int32) (f_R_isStruck : Int32 → M Int32) : List (Nat × Nat × CSem) := [(201, 2, W_R_isAlias f_R_isAlias), (252, 2, W_R_isOut f_R_isOut), (197, 2, W_R_isPerson f_R_isPerson), (198, 2, W_R_isStreet f_R_isStreet), (246, 2, W_R_isStruck f_R_isStruck)]
def F_R_canAct (x1 : Int32) (x2 : Int32) (x3 : Int32) : M (Int32) :=
  (if x1 = 0 then
    bn (F_R_isAlias x2) fun v6 =>
    (if v6 = 0 then
      bn (gdZ (0 : Int32)) fun _ => rt (0 : Int32)
    else
      bn (F_R_isStruck x2) fun v7 =>
      (if v7 = 0 then
        bn (F_R_isStreet x3) fun v8 =>
        (if v8 = 0 then
          bn (gdZ (0 : Int32)) fun _ => rt (0 : Int32)
        else
          bn (gdZ (1 : Int32)) fun _ => rt (1 : Int32))
      else
        bn (gdZ (0 : Int32)) fun _ => rt (0 : Int32)))
  else
    (if x1 = (1 : Int32) then
      bn (F_R_isAlias x2) fun v4 =>
      (if v4 = 0 then
        bn (gdZ (0 : Int32)) fun _ => rt (0 : Int32)
      else
        bn (F_R_isOut x2) fun v5 =>
        (if v5 = 0 then
          bn (gdZ (0 : Int32)) fun _ => rt (0 : Int32)
        else
          bn (gdZ (1 : Int32)) fun _ => rt (1 : Int32)))
    else
      (if x1 = (2 : Int32) then
        bn (F_R_isPerson x2) fun v1 =>
        (if v1 = 0 then
          bn (gdZ (0 : Int32)) fun _ => rt (0 : Int32)
        else
          bn (ld 95 208 ((17 : Int32) + x2)) fun v2 =>
          (if 0 < v2 then
            bn (ld 95 208 (4 : Int32)) fun v3 =>
            (if 0 < v3 then
              bn (gdZ (1 : Int32)) fun _ => rt (1 : Int32)
            else
              bn (gdZ (0 : Int32)) fun _ => rt (0 : Int32))
          else
            bn (gdZ (0 : Int32)) fun _ => rt (0 : Int32)))
      else
        bn (gdZ (0 : Int32)) fun _ => rt (0 : Int32))))
set_option maxRecDepth 4000 in
theorem e_s_R_canAct_0 (f_R_isAlias : Int32 → M Int32) (f_R_isOut : Int32 → M Int32) (f_R_isPerson : Int32 → M Int32) (f_R_isStreet : Int32 → M Int32) (f_R_isStruck : Int32 → M Int32) (x1 : Int32) (x2 : Int32) (x3 : Int32) : wf (β := Int32) L X q_R_canAct 2 (cs_R_canAct f_R_isAlias f_R_isOut f_R_isPerson f_R_isStreet f_R_isStruck) [] [] (fun _ _ _ => fl) (fun v => match v with | some (_, .int x) => rt x | _ => fl) 61 0 [(112, .ref 207), (0, .int x1), (0, .int x2), (0, .int x3)] [] = ((if x1 = 0 then
    bn (f_R_isAlias x2) fun v6 =>
    (if v6 = 0 then
      bn (gdZ (0 : Int32)) fun _ => rt (0 : Int32)
    else
      bn (f_R_isStruck x2) fun v7 =>
      (if v7 = 0 then
        bn (f_R_isStreet x3) fun v8 =>
        (if v8 = 0 then
          bn (gdZ (0 : Int32)) fun _ => rt (0 : Int32)
        else
          bn (gdZ (1 : Int32)) fun _ => rt (1 : Int32))
      else
        bn (gdZ (0 : Int32)) fun _ => rt (0 : Int32)))
  else
    (if x1 = (1 : Int32) then
      bn (f_R_isAlias x2) fun v4 =>
      (if v4 = 0 then
        bn (gdZ (0 : Int32)) fun _ => rt (0 : Int32)
      else
        bn (f_R_isOut x2) fun v5 =>
        (if v5 = 0 then
          bn (gdZ (0 : Int32)) fun _ => rt (0 : Int32)
        else
          bn (gdZ (1 : Int32)) fun _ => rt (1 : Int32)))
    else
      (if x1 = (2 : Int32) then
        bn (f_R_isPerson x2) fun v1 =>
        (if v1 = 0 then
          bn (gdZ (0 : Int32)) fun _ => rt (0 : Int32)
        else
          bn (ld 95 208 ((17 : Int32) + x2)) fun v2 =>
          (if 0 < v2 then
            bn (ld 95 208 (4 : Int32)) fun v3 =>
            (if 0 < v3 then
              bn (gdZ (1 : Int32)) fun _ => rt (1 : Int32)
            else
              bn (gdZ (0 : Int32)) fun _ => rt (0 : Int32))
          else
            bn (gdZ (0 : Int32)) fun _ => rt (0 : Int32)))
      else
        bn (gdZ (0 : Int32)) fun _ => rt (0 : Int32))))) := rfl
theorem s_R_canAct_0 {d : Nat} (hcs : AllS L X d (cs_R_canAct F_R_isAlias F_R_isOut F_R_isPerson F_R_isStreet F_R_isStruck)) (x1 : Int32) (x2 : Int32) (x3 : Int32) {o : Option Value × PH} {Q : (Int32) → MI → Prop} (q0 : ∀ v I, Q v I → o = (some (.int v), HH I)) (I : MI) (r : Int32) (I1 : MI) (h : F_R_canAct x1 x2 x3 I = some (r, I1)) (hq : Q r I1) : At L X (d + 1) 271 0 [(112, .ref 207), (0, .int x1), (0, .int x2), (0, .int x3)] [] I o := by
  refine wf_ok z_R_canAct hcs ?_ ?_ _ _ _ _ _ ⟨rfl, trivial, trivial, trivial, trivial⟩ trivial (unm_refl _ _) ((congrFun (e_s_R_canAct_0 (L := L) (X := X) F_R_isAlias F_R_isOut F_R_isPerson F_R_isStreet F_R_isStruck x1 x2 x3) I).trans h)
  · intro pc ls st I2 h1 h2 h3 h
    cases h
  · intro v I2 _ h
    split at h
    · cases h; exact q0 _ _ hq
    · cases h
theorem w_R_canAct {d : Nat} (hcs : AllS L X d (cs_R_canAct F_R_isAlias F_R_isOut F_R_isPerson F_R_isStreet F_R_isStruck)) : Snd L X (d + 1) 271 4 (W_R_canAct F_R_canAct) := by
  refine ⟨_, z_R_canAct, rfl, fun β args k I r hty hlen h => ?_⟩
  unfold W_R_canAct at h
  split at h
  · rename_i t0 a0 u1 a1 u2 a2 u3 a3
    obtain ⟨hb0, h⟩ := mB_ok h
    have e0 := Nat.eq_of_beq_eq_true hb0
    have g0 : okB 112 a0 = true := e0 ▸ hty.1
    have e20 := one_112 g0
    subst e20
    obtain ⟨v, I1, h1, h2⟩ := bn_some h
    refine ⟨gf_obj (c := 12) (by decide) g0, rfl, some (0, .int v), I1, trivial, ?_, h2⟩
    exact s_R_canAct_0 hcs a1 a2 a3  (Q := fun w I => w = v ∧ I = I1) (fun w I q => by obtain ⟨rfl, rfl⟩ := q; rfl) I v I1 h1 ⟨rfl, rfl⟩
  · cases h
theorem S_R_canAct {d : Nat} (hd : 2 ≤ d) : Snd L X d 271 4 (W_R_canAct F_R_canAct) := by
  obtain ⟨e, rfl⟩ : ∃ e, d = e + 1 := ⟨d - 1, by omega⟩
  exact w_R_canAct ⟨S_R_isAlias (by omega), S_R_isOut (by omega), S_R_isPerson (by omega), S_R_isStreet (by omega), S_R_isStruck (by omega), trivial⟩
set_option maxRecDepth 100000 in
theorem z_R_goesHome : pT[249]? = some (q_R_goesHome, 2, 2, 0, 12) := rfl
def W_R_goesHome (F : Int32 → M Unit) : CSem := fun _ args k => match args with
  | [(t0, .ref a0), (_, .int a1)] => mB (Nat.beq t0 112) <| bn (F a1) fun _ => k none
  | _ => fl
def cs_R_goesHome : List (Nat × Nat × CSem) := []
def F_R_goesHome (x1 : Int32) : M (Unit) :=
  bn (sr 95 208 ((41 : Int32) + x1) (0 : Int32)) fun _ =>
  bn (ld 18 214 x1) fun v1 =>
  bn (sr 95 208 ((23 : Int32) + x1) v1) fun _ =>
  rt ()
set_option maxRecDepth 4000 in
theorem e_s_R_goesHome_0 (x1 : Int32) : wf (β := Unit) L X q_R_goesHome 0 cs_R_goesHome [] [] (fun _ _ _ => fl) (fun v => match v with | none => rt () | _ => fl) 23 0 [(112, .ref 207), (0, .int x1)] [] = (bn (sr 95 208 ((41 : Int32) + x1) (0 : Int32)) fun _ =>
  bn (ld 18 214 x1) fun v1 =>
  bn (sr 95 208 ((23 : Int32) + x1) v1) fun _ =>
  rt ()) := rfl
theorem s_R_goesHome_0 {d : Nat} (hcs : AllS L X d cs_R_goesHome) (x1 : Int32) {o : Option Value × PH} {Q : (Unit) → MI → Prop} (q0 : ∀ v I, Q v I → o = (none, HH I)) (I : MI) (r : Unit) (I1 : MI) (h : F_R_goesHome x1 I = some (r, I1)) (hq : Q r I1) : At L X (d + 1) 249 0 [(112, .ref 207), (0, .int x1)] [] I o := by
  refine wf_ok z_R_goesHome hcs ?_ ?_ _ _ _ _ _ ⟨rfl, trivial, trivial⟩ trivial (unm_refl _ _) ((congrFun (e_s_R_goesHome_0 (L := L) (X := X) x1) I).trans h)
  · intro pc ls st I2 h1 h2 h3 h
    cases h
  · intro v I2 _ h
    split at h
    · cases h; exact q0 _ _ hq
    · cases h
theorem w_R_goesHome {d : Nat} (hcs : AllS L X d cs_R_goesHome) : Snd L X (d + 1) 249 2 (W_R_goesHome F_R_goesHome) := by
  refine ⟨_, z_R_goesHome, rfl, fun β args k I r hty hlen h => ?_⟩
  unfold W_R_goesHome at h
  split at h
  · rename_i t0 a0 u1 a1
    obtain ⟨hb0, h⟩ := mB_ok h
    have e0 := Nat.eq_of_beq_eq_true hb0
    have g0 : okB 112 a0 = true := e0 ▸ hty.1
    have e20 := one_112 g0
    subst e20
    obtain ⟨v, I1, h1, h2⟩ := bn_some h
    refine ⟨gf_obj (c := 12) (by decide) g0, rfl, none, I1, trivial, ?_, h2⟩
    exact s_R_goesHome_0 hcs a1  (Q := fun w I => w = v ∧ I = I1) (fun w I q => by obtain ⟨rfl, rfl⟩ := q; rfl) I v I1 h1 ⟨rfl, rfl⟩
  · cases h
theorem S_R_goesHome {d : Nat} (hd : 1 ≤ d) : Snd L X d 249 2 (W_R_goesHome F_R_goesHome) := by
  obtain ⟨e, rfl⟩ : ∃ e, d = e + 1 := ⟨d - 1, by omega⟩
  exact w_R_goesHome trivial
set_option maxRecDepth 100000 in
theorem z_R_goesOut : pT[247]? = some (q_R_goesOut, 3, 3, 0, 12) := rfl
def W_R_goesOut (F : Int32 → Int32 → M Unit) : CSem := fun _ args k => match args with
  | [(t0, .ref a0), (_, .int a1), (_, .int a2)] => mB (Nat.beq t0 112) <| bn (F a1 a2) fun _ => k none
  | _ => fl
def cs_R_goesOut : List (Nat × Nat × CSem) := []
def F_R_goesOut (x1 : Int32) (x2 : Int32) : M (Unit) :=
  bn (sr 95 208 ((41 : Int32) + x1) (1 : Int32)) fun _ =>
  bn (sr 95 208 ((23 : Int32) + x1) x2) fun _ =>
  rt ()
set_option maxRecDepth 4000 in
theorem e_s_R_goesOut_0 (x1 : Int32) (x2 : Int32) : wf (β := Unit) L X q_R_goesOut 0 cs_R_goesOut [] [] (fun _ _ _ => fl) (fun v => match v with | none => rt () | _ => fl) 20 0 [(112, .ref 207), (0, .int x1), (0, .int x2)] [] = (bn (sr 95 208 ((41 : Int32) + x1) (1 : Int32)) fun _ =>
  bn (sr 95 208 ((23 : Int32) + x1) x2) fun _ =>
  rt ()) := rfl
theorem s_R_goesOut_0 {d : Nat} (hcs : AllS L X d cs_R_goesOut) (x1 : Int32) (x2 : Int32) {o : Option Value × PH} {Q : (Unit) → MI → Prop} (q0 : ∀ v I, Q v I → o = (none, HH I)) (I : MI) (r : Unit) (I1 : MI) (h : F_R_goesOut x1 x2 I = some (r, I1)) (hq : Q r I1) : At L X (d + 1) 247 0 [(112, .ref 207), (0, .int x1), (0, .int x2)] [] I o := by
  refine wf_ok z_R_goesOut hcs ?_ ?_ _ _ _ _ _ ⟨rfl, trivial, trivial, trivial⟩ trivial (unm_refl _ _) ((congrFun (e_s_R_goesOut_0 (L := L) (X := X) x1 x2) I).trans h)
  · intro pc ls st I2 h1 h2 h3 h
    cases h
  · intro v I2 _ h
    split at h
    · cases h; exact q0 _ _ hq
    · cases h
theorem w_R_goesOut {d : Nat} (hcs : AllS L X d cs_R_goesOut) : Snd L X (d + 1) 247 3 (W_R_goesOut F_R_goesOut) := by
  refine ⟨_, z_R_goesOut, rfl, fun β args k I r hty hlen h => ?_⟩
  unfold W_R_goesOut at h
  split at h
  · rename_i t0 a0 u1 a1 u2 a2
    obtain ⟨hb0, h⟩ := mB_ok h
    have e0 := Nat.eq_of_beq_eq_true hb0
    have g0 : okB 112 a0 = true := e0 ▸ hty.1
    have e20 := one_112 g0
    subst e20
    obtain ⟨v, I1, h1, h2⟩ := bn_some h
    refine ⟨gf_obj (c := 12) (by decide) g0, rfl, none, I1, trivial, ?_, h2⟩
    exact s_R_goesOut_0 hcs a1 a2  (Q := fun w I => w = v ∧ I = I1) (fun w I q => by obtain ⟨rfl, rfl⟩ := q; rfl) I v I1 h1 ⟨rfl, rfl⟩
  · cases h
theorem S_R_goesOut {d : Nat} (hd : 1 ≤ d) : Snd L X d 247 3 (W_R_goesOut F_R_goesOut) := by
  obtain ⟨e, rfl⟩ : ∃ e, d = e + 1 := ⟨d - 1, by omega⟩
  exact w_R_goesOut trivial
set_option maxRecDepth 100000 in
theorem z_R_keepsAhead : pT[243]? = some (q_R_keepsAhead, 1, 2, 0, 12) := rfl
def W_R_keepsAhead (F : M Unit) : CSem := fun _ args k => match args with
  | [(t0, .ref a0)] => mB (Nat.beq t0 112) <| bn (F) fun _ => k none
  | _ => fl
def cs_R_keepsAhead : List (Nat × Nat × CSem) := []
def B_R_keepsAhead_21 (y : Int32) : M ((Int32) ⊕ ((Unit))) :=
  bn (rd 207 3) fun v1 =>
  (if y < ((95 : Int32) * v1) then
    bn (ld 570 209 (y + (95 : Int32))) fun v2 =>
    bn (sr 570 209 y v2) fun _ =>
    rt (.inl (y + (1 : Int32)))
  else
    rt (.inr ()))
set_option maxRecDepth 4000 in
theorem e_b_R_keepsAhead_21 (y : Int32) : wf (β := (Int32) ⊕ ((Unit))) L X q_R_keepsAhead 0 cs_R_keepsAhead [1] [21, 53, 55] (fun pc ls st => mC (Nat.beq pc 21) (mN st <| gI ls 1 fun a1 => rt (.inl a1)) (mC (Nat.beq pc 53) (mN st <| gD ls 1 <| rt (.inr ())) (fl))) (fun _ => fl) 62 21 [(112, .ref 207), (0, .int y)] [] = (bn (rd 207 3) fun v1 =>
  (if y < ((95 : Int32) * v1) then
    bn (ld 570 209 (y + (95 : Int32))) fun v2 =>
    bn (sr 570 209 y v2) fun _ =>
    rt (.inl (y + (1 : Int32)))
  else
    rt (.inr ()))) := rfl
theorem b_R_keepsAhead_21 {d : Nat} (hcs : AllS L X d cs_R_keepsAhead) {o : Option Value × PH} {Q : ((Int32) ⊕ ((Unit))) → MI → Prop} (qb : ∀ y I, Q (.inl y) I → At L X (d + 1) 243 21 [(112, .ref 207), (0, .int y)] [] I o) (qe53 : ∀ y I, Q (.inr y) I → At L X (d + 1) 243 53 [(112, .ref 207), (0, dV)] [] I o) (y : Int32) (I : MI) (r : (Int32) ⊕ ((Unit))) (I1 : MI) (h : B_R_keepsAhead_21 y I = some (r, I1)) (hq : Q r I1) : At L X (d + 1) 243 21 [(112, .ref 207), (0, .int y)] [] I o := by
  refine wf_ok z_R_keepsAhead hcs ?_ ?_ _ _ _ _ _ ⟨rfl, trivial, trivial⟩ trivial (unm_refl _ _) ((congrFun (e_b_R_keepsAhead_21 (L := L) (X := X) y) I).trans h)
  · intro pc ls st I2 h1 h2 h3 h
    rcases mC_ok h with ⟨hb, h⟩ | ⟨_, h⟩
    · have e := Nat.eq_of_beq_eq_true hb
      subst e
      obtain ⟨hst, h⟩ := mN_ok h
      subst hst
      obtain ⟨a1, n1, h⟩ := gI_ok h
      refine at_leaf (ls2 := [(112, .ref 207), (0, .int a1)]) h3.1 ⟨Or.inr ⟨_, (h3.2 0 rfl).trans rfl⟩, Or.inr n1, trivial⟩ ?_
      cases h; exact qb _ _ hq
    rcases mC_ok h with ⟨hb, h⟩ | ⟨_, h⟩
    · have e := Nat.eq_of_beq_eq_true hb
      subst e
      obtain ⟨hst, h⟩ := mN_ok h
      subst hst
      obtain ⟨n1, h⟩ := gD_ok h
      refine at_leaf (ls2 := [(112, .ref 207), (0, dV)]) h3.1 ⟨Or.inr ⟨_, (h3.2 0 rfl).trans rfl⟩, Or.inl ⟨rfl, n1⟩, trivial⟩ ?_
      cases h; exact qe53 _ _ hq
    cases h
  · intro v I2 _ h
    cases h
def B_R_keepsAhead_55 (y : Int32) : M ((Int32) ⊕ (Unit)) :=
  (if y < (95 : Int32) then
    bn (rd 207 3) fun v2 =>
    bn (ld 95 208 y) fun v3 =>
    bn (sr 570 209 (((95 : Int32) * v2) + y) v3) fun _ =>
    rt (.inl (y + (1 : Int32)))
  else
    bn (rd 207 3) fun v1 =>
    bn (wr 207 3 (v1 + (1 : Int32))) fun _ =>
    rt (.inr ()))
set_option maxRecDepth 4000 in
theorem e_b_R_keepsAhead_55 (y : Int32) : wf (β := (Int32) ⊕ (Unit)) L X q_R_keepsAhead 0 cs_R_keepsAhead [1] [21, 53, 55] (fun pc ls st => mC (Nat.beq pc 55) (mN st <| gI ls 1 fun a1 => rt (.inl a1)) (fl)) (fun v => match v with | none => rt (.inr ()) | _ => fl) 62 55 [(112, .ref 207), (0, .int y)] [] = ((if y < (95 : Int32) then
    bn (rd 207 3) fun v2 =>
    bn (ld 95 208 y) fun v3 =>
    bn (sr 570 209 (((95 : Int32) * v2) + y) v3) fun _ =>
    rt (.inl (y + (1 : Int32)))
  else
    bn (rd 207 3) fun v1 =>
    bn (wr 207 3 (v1 + (1 : Int32))) fun _ =>
    rt (.inr ()))) := rfl
theorem b_R_keepsAhead_55 {d : Nat} (hcs : AllS L X d cs_R_keepsAhead) {o : Option Value × PH} {Q : ((Int32) ⊕ (Unit)) → MI → Prop} (qb : ∀ y I, Q (.inl y) I → At L X (d + 1) 243 55 [(112, .ref 207), (0, .int y)] [] I o) (qr : ∀ v I, Q (.inr v) I → o = (none, HH I)) (y : Int32) (I : MI) (r : (Int32) ⊕ (Unit)) (I1 : MI) (h : B_R_keepsAhead_55 y I = some (r, I1)) (hq : Q r I1) : At L X (d + 1) 243 55 [(112, .ref 207), (0, .int y)] [] I o := by
  refine wf_ok z_R_keepsAhead hcs ?_ ?_ _ _ _ _ _ ⟨rfl, trivial, trivial⟩ trivial (unm_refl _ _) ((congrFun (e_b_R_keepsAhead_55 (L := L) (X := X) y) I).trans h)
  · intro pc ls st I2 h1 h2 h3 h
    rcases mC_ok h with ⟨hb, h⟩ | ⟨_, h⟩
    · have e := Nat.eq_of_beq_eq_true hb
      subst e
      obtain ⟨hst, h⟩ := mN_ok h
      subst hst
      obtain ⟨a1, n1, h⟩ := gI_ok h
      refine at_leaf (ls2 := [(112, .ref 207), (0, .int a1)]) h3.1 ⟨Or.inr ⟨_, (h3.2 0 rfl).trans rfl⟩, Or.inr n1, trivial⟩ ?_
      cases h; exact qb _ _ hq
    cases h
  · intro v I2 _ h
    split at h
    · cases h; exact qr _ _ hq
    · cases h
def K_R_keepsAhead_55 (x1 : Int32) : M (Unit) :=
  lp (B_R_keepsAhead_55) FU x1
theorem s_R_keepsAhead_55 {d : Nat} (hcs : AllS L X d cs_R_keepsAhead) (x1 : Int32) {o : Option Value × PH} {Q : (Unit) → MI → Prop} (q0 : ∀ v I, Q v I → o = (none, HH I)) (I : MI) (r : Unit) (I1 : MI) (h : K_R_keepsAhead_55 x1 I = some (r, I1)) (hq : Q r I1) : At L X (d + 1) 243 55 [(112, .ref 207), (0, .int x1)] [] I o := by
  unfold K_R_keepsAhead_55 at h
  have w0 := fun w => at_lp (body := B_R_keepsAhead_55) (P := (fun (y : Int32) I => At L X (d + 1) 243 55 [(112, .ref 207), (0, .int y)] [] I o)) (Q := (fun (e : Unit) I => Q e I)) w FU x1 I r I1 h hq
  refine w0 ?_
  intro y I r I1 h hq
  exact b_R_keepsAhead_55 hcs (Q := SQ (fun (y : Int32) I => At L X (d + 1) 243 55 [(112, .ref 207), (0, .int y)] [] I o) (fun (e : Unit) I => Q e I)) (fun _ _ w => w) q0 y I r I1 h hq
def K_R_keepsAhead_53 : M (Unit) :=
  K_R_keepsAhead_55 (0 : Int32)
set_option maxRecDepth 4000 in
theorem e_s_R_keepsAhead_53 (k_55 : Int32 → M (Unit)) : wf (β := Unit) L X q_R_keepsAhead 0 cs_R_keepsAhead [1] [21, 53, 55] (fun pc ls st => mC (Nat.beq pc 55) (mN st <| gI ls 1 fun a1 => k_55 a1) (fl)) (fun v => match v with | none => rt () | _ => fl) 62 53 [(112, .ref 207), (0, dV)] [] = (k_55 (0 : Int32)) := rfl
theorem s_R_keepsAhead_53 {d : Nat} (hcs : AllS L X d cs_R_keepsAhead) {o : Option Value × PH} {Q : (Unit) → MI → Prop} (q0 : ∀ v I, Q v I → o = (none, HH I)) (I : MI) (r : Unit) (I1 : MI) (h : K_R_keepsAhead_53 I = some (r, I1)) (hq : Q r I1) : At L X (d + 1) 243 53 [(112, .ref 207), (0, dV)] [] I o := by
  refine wf_ok z_R_keepsAhead hcs ?_ ?_ _ _ _ _ _ ⟨rfl, trivial, trivial⟩ trivial (unm_refl _ _) ((congrFun (e_s_R_keepsAhead_53 (L := L) (X := X) K_R_keepsAhead_55) I).trans h)
  · intro pc ls st I2 h1 h2 h3 h
    rcases mC_ok h with ⟨hb, h⟩ | ⟨_, h⟩
    · have e := Nat.eq_of_beq_eq_true hb
      subst e
      obtain ⟨hst, h⟩ := mN_ok h
      subst hst
      obtain ⟨a1, n1, h⟩ := gI_ok h
      refine at_leaf (ls2 := [(112, .ref 207), (0, .int a1)]) h3.1 ⟨Or.inr ⟨_, (h3.2 0 rfl).trans rfl⟩, Or.inr n1, trivial⟩ ?_
      exact s_R_keepsAhead_55 hcs a1 q0 _ _ _ h hq
    cases h
  · intro v I2 _ h
    split at h
    · cases h; exact q0 _ _ hq
    · cases h
def K_R_keepsAhead_21 (x1 : Int32) : M (Unit) :=
  bn (lp (B_R_keepsAhead_21) FU x1) fun e => K_R_keepsAhead_53
theorem s_R_keepsAhead_21 {d : Nat} (hcs : AllS L X d cs_R_keepsAhead) (x1 : Int32) {o : Option Value × PH} {Q : (Unit) → MI → Prop} (q0 : ∀ v I, Q v I → o = (none, HH I)) (I : MI) (r : Unit) (I1 : MI) (h : K_R_keepsAhead_21 x1 I = some (r, I1)) (hq : Q r I1) : At L X (d + 1) 243 21 [(112, .ref 207), (0, .int x1)] [] I o := by
  unfold K_R_keepsAhead_21 at h
  obtain ⟨e, I2, h1, h2⟩ := bn_some h
  have w0 := fun w => at_lp (body := B_R_keepsAhead_21) (P := (fun (y : Int32) I => At L X (d + 1) 243 21 [(112, .ref 207), (0, .int y)] [] I o)) (Q := (fun (e : (Unit)) I => (K_R_keepsAhead_53) I = some (r, I1))) w FU x1 I e I2 h1 h2
  refine w0 ?_
  intro y I r2 I3 h hq2
  exact b_R_keepsAhead_21 hcs (Q := SQ (fun (y : Int32) I => At L X (d + 1) 243 21 [(112, .ref 207), (0, .int y)] [] I o) (fun (e : (Unit)) I => (K_R_keepsAhead_53) I = some (r, I1))) (fun _ _ w => w) (fun y I w => s_R_keepsAhead_53 hcs q0 _ _ _ w hq) y I r2 I3 h hq2
def F_R_keepsAhead : M (Unit) :=
  bn (rd 207 3) fun v1 =>
  (if v1 = (6 : Int32) then
    bn (rd 207 3) fun v2 =>
    bn (wr 207 3 (v2 - (1 : Int32))) fun _ =>
    K_R_keepsAhead_21 (0 : Int32)
  else
    K_R_keepsAhead_53)
set_option maxRecDepth 4000 in
theorem e_s_R_keepsAhead_0 (k_21 : Int32 → M (Unit)) (k_53 : M (Unit)) : wf (β := Unit) L X q_R_keepsAhead 0 cs_R_keepsAhead [1] [21, 53, 55] (fun pc ls st => mC (Nat.beq pc 21) (mN st <| gI ls 1 fun a1 => k_21 a1) (mC (Nat.beq pc 53) (mN st <| gD ls 1 <| k_53) (fl))) (fun v => match v with | none => rt () | _ => fl) 62 0 [(112, .ref 207), (0, dV)] [] = (bn (rd 207 3) fun v1 =>
  (if v1 = (6 : Int32) then
    bn (rd 207 3) fun v2 =>
    bn (wr 207 3 (v2 - (1 : Int32))) fun _ =>
    k_21 (0 : Int32)
  else
    k_53)) := rfl
theorem s_R_keepsAhead_0 {d : Nat} (hcs : AllS L X d cs_R_keepsAhead) {o : Option Value × PH} {Q : (Unit) → MI → Prop} (q0 : ∀ v I, Q v I → o = (none, HH I)) (I : MI) (r : Unit) (I1 : MI) (h : F_R_keepsAhead I = some (r, I1)) (hq : Q r I1) : At L X (d + 1) 243 0 [(112, .ref 207), (0, dV)] [] I o := by
  refine wf_ok z_R_keepsAhead hcs ?_ ?_ _ _ _ _ _ ⟨rfl, trivial, trivial⟩ trivial (unm_refl _ _) ((congrFun (e_s_R_keepsAhead_0 (L := L) (X := X) K_R_keepsAhead_21 K_R_keepsAhead_53) I).trans h)
  · intro pc ls st I2 h1 h2 h3 h
    rcases mC_ok h with ⟨hb, h⟩ | ⟨_, h⟩
    · have e := Nat.eq_of_beq_eq_true hb
      subst e
      obtain ⟨hst, h⟩ := mN_ok h
      subst hst
      obtain ⟨a1, n1, h⟩ := gI_ok h
      refine at_leaf (ls2 := [(112, .ref 207), (0, .int a1)]) h3.1 ⟨Or.inr ⟨_, (h3.2 0 rfl).trans rfl⟩, Or.inr n1, trivial⟩ ?_
      exact s_R_keepsAhead_21 hcs a1 q0 _ _ _ h hq
    rcases mC_ok h with ⟨hb, h⟩ | ⟨_, h⟩
    · have e := Nat.eq_of_beq_eq_true hb
      subst e
      obtain ⟨hst, h⟩ := mN_ok h
      subst hst
      obtain ⟨n1, h⟩ := gD_ok h
      refine at_leaf (ls2 := [(112, .ref 207), (0, dV)]) h3.1 ⟨Or.inr ⟨_, (h3.2 0 rfl).trans rfl⟩, Or.inl ⟨rfl, n1⟩, trivial⟩ ?_
      exact s_R_keepsAhead_53 hcs q0 _ _ _ h hq
    cases h
  · intro v I2 _ h
    split at h
    · cases h; exact q0 _ _ hq
    · cases h
theorem w_R_keepsAhead {d : Nat} (hcs : AllS L X d cs_R_keepsAhead) : Snd L X (d + 1) 243 1 (W_R_keepsAhead F_R_keepsAhead) := by
  refine ⟨_, z_R_keepsAhead, rfl, fun β args k I r hty hlen h => ?_⟩
  unfold W_R_keepsAhead at h
  split at h
  · rename_i t0 a0
    obtain ⟨hb0, h⟩ := mB_ok h
    have e0 := Nat.eq_of_beq_eq_true hb0
    have g0 : okB 112 a0 = true := e0 ▸ hty.1
    have e20 := one_112 g0
    subst e20
    obtain ⟨v, I1, h1, h2⟩ := bn_some h
    refine ⟨gf_obj (c := 12) (by decide) g0, rfl, none, I1, trivial, ?_, h2⟩
    exact s_R_keepsAhead_0 hcs   (Q := fun w I => w = v ∧ I = I1) (fun w I q => by obtain ⟨rfl, rfl⟩ := q; rfl) I v I1 h1 ⟨rfl, rfl⟩
  · cases h
theorem S_R_keepsAhead {d : Nat} (hd : 1 ≤ d) : Snd L X d 243 1 (W_R_keepsAhead F_R_keepsAhead) := by
  obtain ⟨e, rfl⟩ : ∃ e, d = e + 1 := ⟨d - 1, by omega⟩
  exact w_R_keepsAhead trivial
set_option maxRecDepth 100000 in
theorem z_R_lesser : pT[248]? = some (q_R_lesser, 3, 3, 1, 12) := rfl
def W_R_lesser (F : Int32 → Int32 → M Int32) : CSem := fun _ args k => match args with
  | [(t0, .ref a0), (_, .int a1), (_, .int a2)] => mB (Nat.beq t0 112) <| bn (F a1 a2) fun v => k (some (0, .int v))
  | _ => fl
def cs_R_lesser : List (Nat × Nat × CSem) := []
def F_R_lesser (x1 : Int32) (x2 : Int32) : M (Int32) :=
  (if x1 < x2 then
    rt x1
  else
    rt x2)
set_option maxRecDepth 4000 in
theorem e_s_R_lesser_0 (x1 : Int32) (x2 : Int32) : wf (β := Int32) L X q_R_lesser 1 cs_R_lesser [] [] (fun _ _ _ => fl) (fun v => match v with | some (_, .int x) => rt x | _ => fl) 12 0 [(112, .ref 207), (0, .int x1), (0, .int x2)] [] = ((if x1 < x2 then
    rt x1
  else
    rt x2)) := rfl
theorem s_R_lesser_0 {d : Nat} (hcs : AllS L X d cs_R_lesser) (x1 : Int32) (x2 : Int32) {o : Option Value × PH} {Q : (Int32) → MI → Prop} (q0 : ∀ v I, Q v I → o = (some (.int v), HH I)) (I : MI) (r : Int32) (I1 : MI) (h : F_R_lesser x1 x2 I = some (r, I1)) (hq : Q r I1) : At L X (d + 1) 248 0 [(112, .ref 207), (0, .int x1), (0, .int x2)] [] I o := by
  refine wf_ok z_R_lesser hcs ?_ ?_ _ _ _ _ _ ⟨rfl, trivial, trivial, trivial⟩ trivial (unm_refl _ _) ((congrFun (e_s_R_lesser_0 (L := L) (X := X) x1 x2) I).trans h)
  · intro pc ls st I2 h1 h2 h3 h
    cases h
  · intro v I2 _ h
    split at h
    · cases h; exact q0 _ _ hq
    · cases h
theorem w_R_lesser {d : Nat} (hcs : AllS L X d cs_R_lesser) : Snd L X (d + 1) 248 3 (W_R_lesser F_R_lesser) := by
  refine ⟨_, z_R_lesser, rfl, fun β args k I r hty hlen h => ?_⟩
  unfold W_R_lesser at h
  split at h
  · rename_i t0 a0 u1 a1 u2 a2
    obtain ⟨hb0, h⟩ := mB_ok h
    have e0 := Nat.eq_of_beq_eq_true hb0
    have g0 : okB 112 a0 = true := e0 ▸ hty.1
    have e20 := one_112 g0
    subst e20
    obtain ⟨v, I1, h1, h2⟩ := bn_some h
    refine ⟨gf_obj (c := 12) (by decide) g0, rfl, some (0, .int v), I1, trivial, ?_, h2⟩
    exact s_R_lesser_0 hcs a1 a2  (Q := fun w I => w = v ∧ I = I1) (fun w I q => by obtain ⟨rfl, rfl⟩ := q; rfl) I v I1 h1 ⟨rfl, rfl⟩
  · cases h
theorem S_R_lesser {d : Nat} (hd : 1 ≤ d) : Snd L X d 248 3 (W_R_lesser F_R_lesser) := by
  obtain ⟨e, rfl⟩ : ∃ e, d = e + 1 := ⟨d - 1, by omega⟩
  exact w_R_lesser trivial
end
