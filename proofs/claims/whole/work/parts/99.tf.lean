/-! text: conditions side by side -/
section TO99
theorem ty_not (st : List Nat) : tyStep 9 0 (1 :: st) = some (1 :: st) := by
  unfold tyStep
  rw [if_neg (by decide), if_neg (by decide)]
  cases st with
  | nil => rfl
  | cons y r => rfl
theorem ty_con {o : Int32} {st : List Nat} (ho : o = 10 ∨ o = 11) : tyStep o 0 (1 :: 1 :: st) = some (1 :: st) := by
  rcases ho with e | e <;> (rw [e]; rfl)
theorem law_sI {x : Int32} {I I1 : MI} {c : Nat} (h : F_Law_add 95 x I = some ((), I1)) : F_Law_add 95 x (sI I c) = some ((), sI I1 c) := by
  have e : sI I c 95 = I 95 := bup_ne _ _ (by decide)
  have e8 : sI I c 98 = I 98 := bup_ne _ _ (by decide)
  unfold F_Law_add at h ⊢
  rw [bn_rd] at h ⊢
  rw [e]
  by_cases hl : I 95 1 < Int32.ofNat 400
  · rw [if_pos hl, bn_rd] at h ⊢
    rw [e]
    cases hi : inR (I 95 1) 400 with
    | false =>
      exfalso
      unfold bn sr at h
      rw [hi] at h
      cases h
    | true =>
      rw [bn_sr _ _ hi, bn_rd, bn_wr, rt_ap] at h ⊢
      cases h
      congr 2
      funext a
      unfold sI
      by_cases h93 : a = 93
      · subst h93
        simp (decide := true) only [bup_eq, bup_ne, Nat.reduceAdd]
      · rw [bup_ne (b := a) _ _ h93]
        by_cases h95 : a = 95
        · subst h95
          simp (decide := true) only [bup_eq, bup_ne, Nat.reduceAdd]
        · rw [bup_ne _ _ h95, bup_ne _ _ h95]
          by_cases h98 : a = 98
          · subst h98
            simp (decide := true) only [bup_eq, bup_ne, Nat.reduceAdd]
          · rw [bup_ne _ _ h98, bup_ne _ _ h98, bup_ne _ _ h93]
  · rw [if_neg hl, rt_ap] at h ⊢
    cases h
    rfl
theorem addN_sI {c : Nat} : ∀ (k : Nat) (I I1 : MI), addN k I = some ((), I1) → addN k (sI I c) = some ((), sI I1 c) := by
  intro k
  induction k with
  | zero => intro I I1 h; cases h; rfl
  | succ k ih =>
    intro I I1 h
    obtain ⟨u, I2, h1, h2⟩ := bn_some (show bn (F_Law_add 95 (-8)) (fun _ => addN k) I = some ((), I1) from h)
    show bn (F_Law_add 95 (-8)) (fun _ => addN k) (sI I c) = _
    rw [bn_of (law_sI h1)]
    exact ih I2 I1 h2
def endB (o : Int32) : M ((Int32 × Int32) ⊕ Int32) :=
  (if o = 0 then
    rt (.inr (0 : Int32))
  else
    bn (F_R_isSign (41 : Int32)) fun v3 =>
    (if v3 = 0 then
      bn (F_R_errs (1 : Int32)) fun v6 =>
      rt (.inr v6)
    else
      bn (rd 207 31) fun v4 =>
      bn (wr 207 31 (v4 - (1 : Int32))) fun _ =>
      bn (rd 207 29) fun v5 =>
      bn (wr 207 29 (v5 - (1 : Int32))) fun _ =>
      bn (F_R_settles (9 : Int32)) fun _ =>
      bn (F_R_reads) fun _ =>
      rt (.inl ((o - (1 : Int32)), (0 : Int32)))))
def endK (o : Int32) (N : Nat) : M Int32 := bn (endB o) (Sum.elim (lp B_R_readAny_9 N) rt)
def SGL (X : CX) (H : MI × MI) (f : Int32 → M Int32) (d : Nat) : Prop := ∀ (k : Nat) (es : CL) (W : List Int32) (c : Nat) (I J : MI) (o N : Nat), (∀ y r, W = y :: r → ¬ y = 9) → LK X (DC es H (List.replicate k 9 ++ W) d) c I J → es.length + k ≤ c → k ≤ d → k + W.length ≤ 3 * d + 2 → 401 < N + c → o ≤ d →
  (∃ I1 J1, f (nn d) I = some (0, I1) ∧ lp B_R_readAny_9 N (nn o, 1) J = some (-1, J1) ∧ ER X I1 J1) ∨
  (∃ I1 c' nw I2 N' J1, f (nn d) I = some (1, I1) ∧ c < c' ∧ nw.length + c ≤ c' ∧ (∀ st : List Nat, st.length ≤ 2 * d + 2 → tyL nw st = some (1 :: st)) ∧ addN k I1 = some ((), I2) ∧ 401 < N' + c' ∧ LK X (DC (es ++ nw ++ List.replicate k (9, 0)) H W (d - k)) c' I2 J1 ∧ lp B_R_readAny_9 N (nn o, 1) J = lp B_R_readAny_9 N' (nn o, 0) J1)
def RES (X : CX) (H : MI × MI) (W : List Int32) (d : Nat) (es : CL) (c0 o : Nat) (A B : Option (Int32 × MI)) : Prop :=
  (∃ I1 J1, A = some (0, I1) ∧ B = some (-1, J1) ∧ ER X I1 J1) ∨
  (∃ I1 c' nw N' J1, A = some (1, I1) ∧ c0 < c' ∧ nw.length + c0 ≤ c' ∧ (∀ st : List Nat, st.length ≤ 2 * d → tyL nw st = some (1 :: st)) ∧ 401 ≤ N' + c' ∧ LK X (DC (es ++ nw) H W d) c' I1 J1 ∧ B = endK (nn o) N' J1)
def CND (X : CX) (H : MI × MI) (f : Int32 → M Int32) (d : Nat) : Prop := ∀ (es : CL) (W : List Int32) (c : Nat) (I J : MI) (o N : Nat), (∀ y r, W = y :: r → y = 12) → LK X (DC es H W d) c I J → es.length ≤ c → W.length ≤ 3 * d → 401 < N + c → o ≤ d → RES X H W d es c o (f (nn d) I) (lp B_R_readAny_9 N (nn o, 1) J)
def CA (f : Int32 → M Int32) (d : Nat) (N p q : Nat) : M Int32 := bn (lp (B_Reader_condition_14 f (nn d)) N (nn p, nn q)) (Sum.elim (K_Reader_condition_117 f) rt)
theorem word_Rf {X : CX} {c : Nat} {J : MI} (h1 : J 207 17 = kR (KD X c) (VL X c)) (h2 : KD X c = 2 → J 207 18 = VL X c) (x : Int32) : F_R_isWord x J = some (if KD X c = 2 ∧ VL X c = x then 1 else 0, J) := by
  unfold F_R_isWord
  rw [bn_rd, h1]
  by_cases h : KD X c = 2
  · rw [if_pos (kR_2.mpr h), bn_rd, h2 h]
    by_cases h3 : VL X c = x
    · rw [if_pos h3, if_pos ⟨h, h3⟩]; rfl
    · rw [if_neg h3, if_neg fun z => h3 z.2]; rfl
  · rw [if_neg fun z => h (kR_2.mp z), if_neg fun z => h z.1]; rfl
def wP (p : Nat) (W : List Int32) : List Int32 := if p = 1 then 11 :: W else W
def tyC (d p : Nat) (nw : CL) : Prop := ∀ st : List Nat, st.length ≤ 2 * d → tyL nw st = some (if p = 1 then 1 :: 1 :: st else 1 :: st)
section
variable {X : CX} {H : MI × MI} {W : List Int32} {d : Nat}
theorem cond_go (hX : Cxt X) {f : Int32 → M Int32} (hf : SGL X H f d) (hd : d ≤ 8) {es : CL} {c0 o : Nat} (ho : o ≤ d) (hW : ∀ y r, W = y :: r → y = 12) (hWl : W.length ≤ 3 * d) (hes : es.length ≤ c0) : ∀ (Mm c : Nat) (nw : CL) (p q : Nat) (I Jh J1 : MI) (Na N : Nat), 401 ≤ Mm + c → (p = 0 ∨ p = 1) → LK X (DC (es ++ nw) H (wP p W) d) c I J1 → Jh 207 17 = kR (KD X c) (VL X c) → (KD X c = 2 → Jh 207 18 = VL X c) → F_R_settles 10 Jh = some ((), J1) → nw.length + p + c0 ≤ c → c0 < c → tyC d p nw → 401 < Na + c → 401 < N + c → q ≤ c → RES X H W d es c0 o (CA f d Na p q I) (lp B_R_readAny_9 N (nn o, 0) Jh) := by
  intro Mm
  induction Mm with
  | zero => intro c nw p q I Jh J1 Na N hM hp hL; have := lk_c hX hL; omega
  | succ Mm ih =>
    intro c nw p q I Jh J1 Na N hM hp hL j17 j18 jset hlen hc0 hty hNa hN hq
    have hc := lk_c hX hL
    have hX1 := hX.1
    have hX2 := hX.2.1
    obtain ⟨Na, rfl⟩ : ∃ N', Na = N' + 1 := ⟨Na - 1, by omega⟩
    obtain ⟨N, rfl⟩ : ∃ N', N = N' + 1 := ⟨N - 1, by omega⟩
    have hl2 : (es ++ nw).length = es.length + nw.length := List.length_append
    have hwp : (wP p W).length ≤ W.length + 1 := by unfold wP; split <;> simp
    have hwp10 : ∀ y r, wP p W = y :: r → ¬ y = 10 := by
      intro y r h
      unfold wP at h
      split at h
      · cases h; decide
      · rw [hW y r h]; decide
    have hW11 : ∀ y r, W = y :: r → ¬ y = 11 := fun y r h => by rw [hW y r h]; decide
    have hW9 : ∀ y r, W = y :: r → ¬ y = 9 := fun y r h => by rw [hW y r h]; decide
    have wR := word_Rf (X := X) (c := c) j17 j18
    -- the eleven goes out, if one waits
    have out11 : ∃ I2 J2, (if p = 1 then F_Law_add 95 (-10) I = some ((), I2) else I2 = I) ∧ F_R_settles 11 J1 = some ((), J2) ∧ LK X (DC (es ++ (if p = 1 then nw ++ [(11, 0)] else nw)) H W d) c I2 J2 ∧ (if p = 1 then nw ++ [(11, 0)] else nw).length + c0 ≤ c ∧ tyC d 0 (if p = 1 then nw ++ [(11, 0)] else nw) := by
      unfold F_R_settles
      rw [show FU = 4999 + 1 from rfl]
      rcases hp with e | e
      · subst e
        have hL' : LK X (DC (es ++ nw) H W d) c I J1 := hL
        exact ⟨I, J1, rfl, set_no hL' (by omega) hW11 _, hL', by show nw.length + c0 ≤ c; omega, hty⟩
      · subst e
        have hL' : LK X (DC (es ++ nw) H (11 :: W) d) c I J1 := hL
        obtain ⟨I2, J2, q1, q2, q3⟩ := set_yes hL' (by omega) (by rw [hl2]; omega) (Or.inr (Or.inr rfl)) (fun z => absurd z (by decide))
        rw [if_neg (by decide), List.append_assoc] at q3
        rw [cod_11] at q1
        refine ⟨I2, J2, q1, ?_, q3, by rw [if_pos rfl, List.length_append]; show nw.length + 1 + c0 ≤ c; omega, ?_⟩
        · rw [lp_s, bn_of q2]
          exact set_no q3 (by omega) hW11 4998
        · intro st hst
          rw [if_pos rfl, if_neg (by decide)]
          have t := hty st hst
          rw [if_pos rfl] at t
          exact tyL_snoc _ _ _ _ _ t (ty_con (Or.inr rfl))
    by_cases hand : KD X c = 2 ∧ VL X c = 5
    · -- and
      have h0 : ¬ KD X c = 0 := by rw [hand.1]; decide
      have hlt := kd_lt hX hL h0
      have hq4 : nn q < (400 : Int32) := (nn_lt (k := 400) (by omega) (by omega)).mpr (by omega)
      have wA := wrd_A hX hL 5
      rw [if_pos hand] at wA
      have w5 := wR 5
      rw [if_pos hand] at w5
      obtain ⟨J2, u1, u2⟩ := p_wait hL (by omega) 10
      obtain ⟨J3, g1, g2⟩ := p_step hX stab_DC u2 h0
      have eB : lp B_R_readAny_9 (N + 1) (nn o, 0) Jh = lp B_R_readAny_9 N (nn o, 1) J3 := by
        have st : B_R_readAny_9 (nn o, 0) Jh = some (.inl (nn o, 1), J3) := by
          unfold B_R_readAny_9
          rw [if_pos (show (nn o, (0 : Int32)).2 = 0 from rfl), bn_of w5, if_neg one_ne, bn_of jset, bn_of u1, bn_of g1]
          rfl
        rw [lp_e, bn_of st]; rfl
      have eA : CA f d (Na + 1) p q I = (bn (f (nn d)) fun v1 => if v1 = 0 then rt 0 else bn (F_Law_add 95 (-9)) fun _ => CA f d Na p (q + 1)) (sI I c) := by
        have eb : B_Reader_condition_14 f (nn d) (nn p, nn q) I = (bn (f (nn d)) fun v1 => if v1 = 0 then rt (.inr (.inr 0)) else bn (F_Law_add 95 (-9)) fun _ => rt (.inl (nn p, nn (q + 1)))) (sI I c) := by
          unfold B_Reader_condition_14
          rw [if_pos (show (nn p, nn q).2 < (400 : Int32) from hq4), bn_of wA, if_neg one_ne, bn_of wA, if_neg one_ne]
          unfold K_Reader_condition_65
          rcases hp with e | e
          · subst e
            rw [if_pos (show (nn 0, nn q).1 = 0 from rfl), if_neg one_ne, bn_of (step_A hX hL h0), gdZ0]
            simp only [bn_rt, if_neg one_ne, nn_s]
            rfl
          · subst e
            rw [if_neg (show ¬ (nn 1, nn q).1 = 0 from one_ne)]
            unfold K_Reader_condition_74
            rw [bn_of (step_A hX hL h0), gdZ0]
            simp only [bn_rt, if_neg one_ne, nn_s]
            rfl
        unfold CA
        rw [lp_bn]
        have e1 : ∀ (g : (Int32 × Int32) ⊕ (Int32 ⊕ Int32) → M Int32), bn (B_Reader_condition_14 f (nn d) (nn p, nn q)) g I = bn (bn (f (nn d)) fun v1 => if v1 = 0 then rt (.inr (.inr 0)) else bn (F_Law_add 95 (-9)) fun _ => rt (.inl (nn p, nn (q + 1)))) g (sI I c) := by
          intro g
          exact bn_cg eb
        rw [e1, bn_bn]
        congr 2
        funext v1
        rw [bn_ite]
        by_cases hv : v1 = 0
        · rw [if_pos hv, if_pos hv]; rfl
        · rw [if_neg hv, if_neg hv, bn_bn]; rfl
      rw [eA, eB]
      have hlw : (10 :: wP p W).length = (wP p W).length + 1 := rfl
      rcases hf 0 (es ++ nw) (10 :: wP p W) (c + 1) (sI I c) J3 o N (fun y r h => by cases h; decide) g2 (by rw [hl2]; omega) (by omega) (by rw [hlw]; omega) (by omega) ho with ⟨I1, J4, s1, s2, s3⟩ | ⟨I1, c', nw2, I2, N', J4, s1, s2, s3, s4, s5, s6, s7, s8⟩
      · refine Or.inl ⟨I1, J4, ?_, s2, s3⟩
        rw [bn_of s1, if_pos rfl]; rfl
      · cases s5
        have s7' : LK X (DC (es ++ nw ++ nw2) H (10 :: wP p W) d) c' I1 J4 := by
          have z := s7
          rw [List.replicate_zero, List.append_nil] at z
          exact z
        have hl3 : (es ++ nw ++ nw2).length = es.length + nw.length + nw2.length := by rw [List.length_append, List.length_append]
        have hc4 := lk_c hX s7'
        obtain ⟨I5, J5, q1, q2, q3⟩ := set_yes s7' (by omega) (by rw [hl3]; omega) (Or.inr (Or.inl rfl)) (fun z => absurd z (by decide))
        rw [if_neg (by decide)] at q3
        have e3 : es ++ nw ++ nw2 ++ [((10 : Int32), (0 : Int32))] = es ++ (nw ++ nw2 ++ [(10, 0)]) := by simp only [List.append_assoc]
        rw [e3] at q3
        have hs10 : F_R_settles 10 J4 = some ((), J5) := by
          unfold F_R_settles
          rw [show FU = 4998 + 1 + 1 from rfl, lp_s, bn_of q2]
          exact set_no q3 (by omega) hwp10 4998
        rw [bn_of s1, if_neg one_ne, bn_of (show F_Law_add 95 (-9) I1 = some ((), I5) from cod_10 ▸ q1), s8]
        refine ih c' (nw ++ nw2 ++ [(10, 0)]) p (q + 1) I5 J4 J5 Na N' (by omega) hp q3 (kind_R s7') (fun z => val_R s7' (Or.inl z)) hs10 ?_ (by omega) ?_ (by omega) s6 (by omega)
        · rw [List.length_append, List.length_append]
          show nw.length + nw2.length + 1 + p + c0 ≤ c'
          omega
        · intro st hst
          have t := hty st hst
          rcases hp with e | e
          · subst e
            rw [if_neg (by decide)] at t ⊢
            refine tyL_snoc _ _ _ _ _ ?_ (ty_con (Or.inl rfl))
            rw [tyL_app, t]
            exact s4 (1 :: st) (by show st.length + 1 ≤ _; omega)
          · subst e
            rw [if_pos rfl] at t ⊢
            refine tyL_snoc _ _ _ _ _ ?_ (ty_con (Or.inl rfl))
            rw [tyL_app, t]
            exact s4 (1 :: 1 :: st) (by show st.length + 1 + 1 ≤ _; omega)
    · have wA5 := wrd_A hX hL 5
      rw [if_neg hand] at wA5
      have w5 := wR 5
      rw [if_neg hand] at w5
      obtain ⟨I2, J2, o1, o2, o3, o4, o5⟩ := out11
      by_cases hor : KD X c = 2 ∧ VL X c = 4
      · -- or
        have h0 : ¬ KD X c = 0 := by rw [hor.1]; decide
        have hlt := kd_lt hX hL h0
        have hq4 : nn q < (400 : Int32) := (nn_lt (k := 400) (by omega) (by omega)).mpr (by omega)
        have wA4 := wrd_A hX hL 4
        rw [if_pos hor] at wA4
        have w4 := wR 4
        rw [if_pos hor] at w4
        obtain ⟨J3, u1, u2⟩ := p_wait o3 (by omega) 11
        obtain ⟨J4, g1, g2⟩ := p_step hX stab_DC u2 h0
        have eB : lp B_R_readAny_9 (N + 1) (nn o, 0) Jh = lp B_R_readAny_9 N (nn o, 1) J4 := by
          have st : B_R_readAny_9 (nn o, 0) Jh = some (.inl (nn o, 1), J4) := by
            unfold B_R_readAny_9
            rw [if_pos (show (nn o, (0 : Int32)).2 = 0 from rfl), bn_of w5, if_pos rfl, bn_of w4, if_neg one_ne, bn_of jset, bn_of o2, bn_of u1, bn_of g1]
            rfl
          rw [lp_e, bn_of st]; rfl
        have eA : CA f d (Na + 1) p q I = (bn (f (nn d)) fun v1 => if v1 = 0 then rt 0 else CA f d Na 1 (q + 1)) (sI I2 c) := by
          have k74 : ∀ pp : Int32, K_Reader_condition_65 f (nn d) pp (nn q) 0 I2 = (bn (f (nn d)) fun v1 => if v1 = 0 then rt (.inr (.inr 0)) else rt (.inl (1, nn (q + 1)))) (sI I2 c) := by
            intro pp
            unfold K_Reader_condition_65 K_Reader_condition_74
            rw [if_pos rfl, ite_self, bn_of (step_A hX o3 h0), gdZ0]
            simp only [bn_rt, if_true, nn_s]
          have eb : B_Reader_condition_14 f (nn d) (nn p, nn q) I = (bn (f (nn d)) fun v1 => if v1 = 0 then rt (.inr (.inr 0)) else rt (.inl (1, nn (q + 1)))) (sI I2 c) := by
            unfold B_Reader_condition_14
            rw [if_pos (show (nn p, nn q).2 < (400 : Int32) from hq4), bn_of wA5, if_pos rfl, bn_of wA4, if_neg one_ne, bn_of wA5, if_pos rfl]
            rcases hp with e | e
            · subst e
              rw [if_neg (by decide)] at o1
              rw [if_pos (show (nn 0, nn q).1 = 0 from rfl), ← o1]
              exact k74 _
            · subst e
              rw [if_pos rfl] at o1
              rw [if_neg (show ¬ (nn 1, nn q).1 = 0 from one_ne), bn_of o1]
              exact k74 _
          unfold CA
          rw [lp_bn]
          have e1 : ∀ (g : (Int32 × Int32) ⊕ (Int32 ⊕ Int32) → M Int32), bn (B_Reader_condition_14 f (nn d) (nn p, nn q)) g I = bn (bn (f (nn d)) fun v1 => if v1 = 0 then rt (.inr (.inr 0)) else rt (.inl (1, nn (q + 1)))) g (sI I2 c) := by
            intro g
            exact bn_cg eb
          rw [e1, bn_bn]
          congr 2
          funext v1
          rw [bn_ite]
          by_cases hv : v1 = 0
          · rw [if_pos hv, if_pos hv]; rfl
          · rw [if_neg hv, if_neg hv]; rfl
        rw [eA, eB]
        have hl4 : (es ++ (if p = 1 then nw ++ [(11, 0)] else nw)).length = es.length + (if p = 1 then nw ++ [((11 : Int32), (0 : Int32))] else nw).length := List.length_append
        generalize (if p = 1 then nw ++ [((11 : Int32), (0 : Int32))] else nw) = nw1 at o3 o4 o5 hl4 g2 u2
        have hlw : (11 :: W).length = W.length + 1 := rfl
        rcases hf 0 (es ++ nw1) (11 :: W) (c + 1) (sI I2 c) J4 o N (fun y r h => by cases h; decide) g2 (by rw [hl4]; omega) (by omega) (by rw [hlw]; omega) (by omega) ho with ⟨I1, J5, s1, s2, s3⟩ | ⟨I1, c', nw2, I3, N', J5, s1, s2, s3, s4, s5, s6, s7, s8⟩
        · refine Or.inl ⟨I1, J5, ?_, s2, s3⟩
          rw [bn_of s1, if_pos rfl]; rfl
        · cases s5
          have s7' : LK X (DC (es ++ (nw1 ++ nw2)) H (wP 1 W) d) c' I1 J5 := by
            have z := s7
            rw [List.replicate_zero, List.append_nil, List.append_assoc] at z
            exact z
          have hs10 : F_R_settles 10 J5 = some ((), J5) := by
            unfold F_R_settles
            rw [show FU = 4999 + 1 from rfl]
            exact set_no s7' (by show W.length + 1 ≤ 40; omega) (fun y r h => by cases h; decide) 4999
          rw [bn_of s1, if_neg one_ne, s8]
          refine ih c' (nw1 ++ nw2) 1 (q + 1) I1 J5 J5 Na N' (by omega) (Or.inr rfl) s7' (kind_R s7') (fun z => val_R s7' (Or.inl z)) hs10 ?_ (by omega) ?_ (by omega) s6 (by omega)
          · rw [List.length_append]; omega
          · intro st hst
            have t := o5 st hst
            rw [if_neg (by decide)] at t
            rw [if_pos rfl, tyL_app, t]
            exact s4 (1 :: st) (by show st.length + 1 ≤ _; omega)
      · -- neither
        have wA4 := wrd_A hX hL 4
        rw [if_neg hor] at wA4
        have w4 := wR 4
        rw [if_neg hor] at w4
        have eB : lp B_R_readAny_9 (N + 1) (nn o, 0) Jh = endK (nn o) N J2 := by
          have st : B_R_readAny_9 (nn o, 0) Jh = endB (nn o) J2 := by
            unfold B_R_readAny_9
            rw [if_pos (show (nn o, (0 : Int32)).2 = 0 from rfl), bn_of w5, if_pos rfl, bn_of w4, if_pos rfl, bn_of jset, bn_of o2]
            rfl
          rw [lp_e]
          unfold endK
          exact bn_cg st
        have eb : B_Reader_condition_14 f (nn d) (nn p, nn q) I = some (.inr (.inl (nn p)), I) := by
          unfold B_Reader_condition_14
          by_cases hq4 : nn q < (400 : Int32)
          · rw [if_pos (show (nn p, nn q).2 < (400 : Int32) from hq4), bn_of wA5, if_pos rfl, bn_of wA4, if_pos rfl]; rfl
          · rw [if_neg (show ¬ (nn p, nn q).2 < (400 : Int32) from hq4)]; rfl
        have eA : CA f d (Na + 1) p q I = some (1, I2) := by
          unfold CA
          rw [lp_bn, bn_of eb]
          show K_Reader_condition_117 f (nn p) I = _
          unfold K_Reader_condition_117
          rcases hp with e | e
          · subst e
            rw [if_neg (by decide)] at o1
            rw [if_pos (show nn 0 = 0 from rfl), o1]; rfl
          · subst e
            rw [if_pos rfl] at o1
            rw [if_neg (show ¬ nn 1 = 0 from one_ne), bn_of o1]; rfl
        rw [eA, eB]
        refine Or.inr ⟨I2, c, _, N, J2, rfl, hc0, o4, fun st hst => ?_, by omega, o3, rfl⟩
        have t := o5 st hst
        rw [if_neg (show ¬ (0 : Nat) = 1 by decide)] at t
        exact t
theorem cond_of (hX : Cxt X) {f : Int32 → M Int32} (hf : SGL X H f d) (hd : d ≤ 8) : CND X H (K_Reader_condition_0 f) d := by
  intro es W c I J o N hW hL hes hWl hN ho
  have hW9 : ∀ y r, W = y :: r → ¬ y = 9 := fun y r h => by rw [hW y r h]; decide
  have hW10 : ∀ y r, W = y :: r → ¬ y = 10 := fun y r h => by rw [hW y r h]; decide
  have eA : K_Reader_condition_0 f (nn d) = bn (f (nn d)) fun v1 => if v1 = 0 then rt 0 else CA f d FU 0 0 := by
    unfold K_Reader_condition_0 K_Reader_condition_14 CA
    rw [gdZ0]
    congr 1
    funext v1
    by_cases hv : v1 = 0
    · rw [if_pos hv, if_pos hv, bn_rt]
    · rw [if_neg hv, if_neg hv]
      congr 1
      funext e
      cases e <;> rfl
  rw [eA]
  rcases hf 0 es W c I J o N hW9 hL (by omega) (by omega) (by omega) hN ho with ⟨I1, J4, s1, s2, s3⟩ | ⟨I1, c', nw2, I2, N', J4, s1, s2, s3, s4, s5, s6, s7, s8⟩
  · refine Or.inl ⟨I1, J4, ?_, s2, s3⟩
    rw [bn_of s1, if_pos rfl]; rfl
  · cases s5
    have s7' : LK X (DC (es ++ nw2) H (wP 0 W) d) c' I1 J4 := by
      have z := s7
      rw [List.replicate_zero, List.append_nil] at z
      exact z
    have hs10 : F_R_settles 10 J4 = some ((), J4) := by
      unfold F_R_settles
      rw [show FU = 4999 + 1 from rfl]
      exact set_no s7' (by show W.length ≤ 40; omega) hW10 4999
    rw [bn_of s1, if_neg one_ne, s8]
    refine cond_go hX hf hd ho hW hWl hes 401 c' nw2 0 0 I1 J4 J4 FU N' (by omega) (Or.inl rfl) s7' (kind_R s7') (fun z => val_R s7' (Or.inl z)) hs10 (by omega) (by omega) (fun st hst => ?_) (by rw [FU_eq]; omega) s6 (by omega)
    rw [if_neg (by decide)]
    exact s4 st (by omega)
end
end TO99
