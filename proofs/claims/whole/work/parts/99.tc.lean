/-! text: codes and units side by side -/
section TL99
abbrev CL := List (Int32 × Int32)
def rowsG (G : MI × MI) (I J : MI) : Prop := I 96 = G.1 96 ∧ I 97 = G.1 97 ∧ J 219 = G.2 219 ∧ J 220 = G.2 220 ∧ J 221 = G.2 221 ∧ J 222 = G.2 222 ∧ J 225 = G.2 225 ∧ J 207 29 = G.2 207 29 ∧ J 207 31 = G.2 207 31
def codE (es : CL) (I J : MI) : Prop := es.length ≤ 400 ∧ I 95 1 = nn es.length ∧ J 207 28 = nn es.length ∧ ∀ k, k < es.length → isInt9 (es.getD k (0, 0)).1 (es.getD k (0, 0)).2 ∧ J 223 (800 + k) = (es.getD k (0, 0)).1 ∧ J 224 (800 + k) = (es.getD k (0, 0)).2 ∧ I 98 k = codOf (es.getD k (0, 0)).1 (es.getD k (0, 0)).2
def DE (es : CL) (G : MI × MI) (I J : MI) : Prop := codE es I J ∧ rowsG G I J
theorem stab_DE (es : CL) (G : MI × MI) : stab (DE es G) := by
  intro I J I1 J1 h1 h2 h3 h
  unfold DE codE rowsG at h ⊢
  rw [h1 95 (by omega) (by omega), h1 96 (by omega) (by omega), h1 97 (by omega) (by omega), h1 98 (by omega) (by omega), h2 219 (by omega) (by omega), h2 220 (by omega) (by omega), h2 221 (by omega) (by omega), h2 222 (by omega) (by omega), h2 223 (by omega) (by omega), h2 224 (by omega) (by omega), h2 225 (by omega) (by omega), h3 28 (Or.inl rfl), h3 29 (Or.inr (Or.inl rfl)), h3 31 (Or.inr (Or.inr rfl))]
  exact h
theorem gd_lt {es : CL} {x : Int32 × Int32} {k : Nat} (h : k < es.length) : (es ++ [x]).getD k (0, 0) = es.getD k (0, 0) := by
  simp only [List.getD_eq_getElem?_getD, List.getElem?_append_left h]
theorem gd_eq {es : CL} {x : Int32 × Int32} : (es ++ [x]).getD es.length (0, 0) = x := by
  simp [List.getD_eq_getElem?_getD]
theorem kpJ_3 (k : Nat) : kpJ 223 (800 + k) = false := by simp [kpJ]
theorem kpJ_4 (k : Nat) : kpJ 224 (800 + k) = false := by simp [kpJ]
theorem kpI_98 (k : Nat) : kpI 98 k = false := by simp [kpI]
section
variable {X : CX} {es : CL} {G : MI × MI} {c : Nat} {I J : MI}
theorem p_emit (h : LK X (DE es G) c I J) (hl : es.length < 400) (o a : Int32) (hi : isInt9 o a) : ∃ I1 J1, F_Law_add 95 (codOf o a) I = some ((), I1) ∧ F_R_emits o a J = some ((), J1) ∧ LK X (DE (es ++ [(o, a)]) G) c I1 J1 := by
  obtain ⟨h1, ⟨a1, a2, a3, a4⟩, ⟨r1, r2, r3, r4, r5⟩, ⟨e1, e2, e3, e4⟩, g⟩ := h
  have eA : F_Law_add 95 (codOf o a) I = some ((), bup (bup I 98 (upd (I 98) es.length (codOf o a))) 95 (upd (I 95) 1 (nn (es.length + 1)))) := by
    have hO : Ok (F_Law_add 95 (codOf o a)) I fun _ K => K = bup (bup I 98 (upd (I 98) es.length (codOf o a))) 95 (upd (I 95) 1 (nn (es.length + 1))) := by
      have g1 : nn es.length < Int32.ofNat 400 := (nn_lt (by omega) (by omega)).mpr hl
      have i1 : inR (nn es.length) 400 = true := inR_nn (by omega) (by omega)
      have t1 : (nn es.length).toNatClampNeg = es.length := nn_nat (by omega)
      unfold F_Law_add
      simp (decide := true) only [ok_bn, ok_rd, e2, ok_ite, if_pos g1, ok_sr, i1, t1, bup_eq, bup_ne, ok_wr, ok_rt, nn_s, true_and, Nat.reduceAdd]
    obtain ⟨u, K, q1, rfl⟩ := hO
    exact q1
  have eR : F_R_emits o a J = some ((), bup (bup (bup J 223 (upd (J 223) (800 + es.length) o)) 224 (upd (J 224) (800 + es.length) a)) 207 (upd (J 207) 28 (nn (es.length + 1)))) := by
    have hO : Ok (F_R_emits o a) J fun _ K => K = bup (bup (bup J 223 (upd (J 223) (800 + es.length) o)) 224 (upd (J 224) (800 + es.length) a)) 207 (upd (J 207) 28 (nn (es.length + 1))) := by
      have x1 : (800 : Int32) + nn es.length = nn (800 + es.length) := nn_add 800 _
      have i1 : inR (nn (800 + es.length)) 1200 = true := inR_nn (by omega) (by omega)
      have t1 : (nn (800 + es.length)).toNatClampNeg = 800 + es.length := nn_nat (by omega)
      unfold F_R_emits
      simp (decide := true) only [ok_bn, ok_rd, e3, x1, ok_sr, i1, t1, bup_eq, bup_ne, ok_wr, ok_rt, nn_s, true_and]
    obtain ⟨u, K, q1, rfl⟩ := hO
    exact q1
  refine ⟨_, _, eA, eR, h1, ⟨?_, ?_, ?_, ?_⟩, ⟨?_, ?_, ?_, ?_, ?_⟩, ⟨?_, ?_, ?_, ?_⟩, ?_⟩
  · rw [bup_ne _ _ (by decide), bup_ne _ _ (by decide)]; exact a1
  · rw [bup_ne _ _ (by decide), bup_ne _ _ (by decide)]; exact a2
  · rw [bup_ne _ _ (by decide), bup_ne _ _ (by decide)]; exact a3
  · have f1 := fi_set (x := codOf o a) a4 (kpI_98 es.length)
    have f2 := fi_set (a := 95) (k := 1) (x := nn (es.length + 1)) f1 rfl
    rw [bup_ne _ _ (by decide)] at f2
    exact f2
  · rw [bup_eq, upd_ne _ _ (by decide)]; exact r1
  · rw [bup_eq, upd_ne _ _ (by decide)]; exact r2
  · rw [bup_eq, upd_ne _ _ (by decide)]; exact r3
  · rw [bup_eq, upd_ne _ _ (by decide)]; exact r4
  · have f1 := fj_set (x := o) r5 (kpJ_3 es.length)
    have f2 := fj_set (x := a) f1 (kpJ_4 es.length)
    have f3 := fj_set (a := 207) (k := 28) (x := nn (es.length + 1)) f2 rfl
    rw [bup_ne (b := 224) _ _ (by decide), bup_ne (b := 207) _ _ (by decide), bup_ne (b := 207) _ _ (by decide)] at f3
    exact f3
  · rw [List.length_append]; show es.length + 1 ≤ 400; omega
  · rw [bup_eq, upd_eq, List.length_append]; rfl
  · rw [bup_eq, upd_eq, List.length_append]; rfl
  · intro k hk
    have hk2 : k < es.length + 1 := by rw [List.length_append] at hk; exact hk
    rw [bup_ne (b := 223) _ _ (by decide), bup_ne (b := 223) _ _ (by decide), bup_eq, bup_ne (b := 224) _ _ (by decide), bup_eq, bup_ne (b := 98) _ _ (by decide), bup_eq]
    by_cases e : k = es.length
    · rw [e, gd_eq, upd_eq, upd_eq, upd_eq]
      exact ⟨hi, rfl, rfl, rfl⟩
    · rw [gd_lt (by omega), upd_ne _ _ (by omega), upd_ne _ _ (by omega), upd_ne _ _ e]
      exact e4 k (by omega)
  · unfold rowsG at g ⊢
    simp (decide := true) only [bup_ne, bup_eq, upd_ne]
    exact g
abbrev sg (X : CX) (c : Nat) (x : Int32) : Prop := KD X c = 4 ∧ VL X c = x
theorem n9 {o : Int32} (k : Nat) (h : o = nn k) (h1 : 2 ≤ k) (h2 : k < 12) : isInt9 o 0 := Or.inr (Or.inr ⟨k, h1, h2, h⟩)
/-- one unit is read: one code more -/
def UQ (X : CX) (es : CL) (G : MI × MI) (c : Nat) (I J : MI) : Prop := ∃ x, LK X (DE (es ++ [x]) G) (c + 1) I J ∧ ∀ st : List Nat, st.length < 40 → ∃ z, z ≠ 1 ∧ tyStep x.1 x.2 st = some (z :: st)
theorem p_unum (hX : Cxt X) (h : LK X (DE es G) c I J) (hc : es.length ≤ c) (hk : KD X c = 3) : ∃ I1 I2 J2, F_Law_add 95 (VL X c) I = some ((), I1) ∧ F_Reader_step I1 = some ((), I2) ∧ F_R_readUnit J = some (0, J2) ∧ LK X (DE (es ++ [(0, VL X c)]) G) (c + 1) I2 J2 := by
  have h0 : ¬ KD X c = 0 := by rw [hk]; decide
  have hlt := kd_lt hX h h0
  have h400 : es.length < 400 := by have := hX.1; have := hX.2.1; omega
  obtain ⟨v, hv, ev⟩ := vl_num hX hk
  obtain ⟨I1, J1, q1, q2, q3⟩ := p_emit h h400 0 (VL X c) (Or.inl ⟨rfl, v, hv, ev⟩)
  have ec : codOf 0 (VL X c) = VL X c := if_pos rfl
  rw [ec] at q1
  obtain ⟨J2, g1, g2⟩ := p_step hX (stab_DE _ _) q3 h0
  refine ⟨I1, _, J2, q1, step_A hX q3 h0, ?_, g2⟩
  unfold F_R_readUnit
  have k2 : ¬ J 207 17 = 2 := by rw [kind_R h]; exact fun z => by rw [kR_2, hk] at z; exact absurd z (by decide)
  have k3 : J 207 17 = 3 := by rw [kind_R h]; exact kR_3.mpr hk
  rw [bn_rd, if_neg k2, if_pos rfl, bn_rd, if_pos k3]
  unfold K_R_readUnit_43
  rw [if_pos rfl, if_pos rfl, bn_rd, val_R h (Or.inr (Or.inl hk)), bn_of q2, bn_of g1]
  rfl
theorem ty_num {v : Int32} (st : List Nat) (h : st.length < 40) : ∃ z, z ≠ 1 ∧ tyStep 0 v st = some (z :: st) := by
  unfold tyStep
  rw [if_pos rfl, if_pos h]
  by_cases hv : v = 0
  · rw [if_pos hv]; exact ⟨0, by decide, rfl⟩
  · rw [if_neg hv]; exact ⟨2, by decide, rfl⟩
def UP (X : CX) (es : CL) (G : MI × MI) (c : Nat) (r s : Int32) (I J : MI) : Prop := eR X r s I J ∨ (r = 1 ∧ s = 0 ∧ UQ X es G c I J)
theorem ask_cod : (List.range 9).all (fun k => decide ((-20 : Int32) - nn (k + 7) = codOf 1 (nn k))) = true := by decide +kernel
theorem p_unit (hX : Cxt X) (h : LK X (DE es G) c I J) (hc : es.length ≤ c) : Ok2 F_Reader_unit F_R_readUnit I J (UP X es G c) := by
  by_cases hk : KD X c = 3
  · obtain ⟨I1, I2, J2, q1, q2, q3, q4⟩ := p_unum hX h hc hk
    refine ⟨1, I2, 0, J2, ?_, q3, Or.inr ⟨rfl, rfl, _, q4, fun st hs => ty_num st hs⟩⟩
    unfold F_Reader_unit
    rw [bn_rd, bn_of (kind_A hX h), if_pos hk, bn_rd, bn_of (val_A hX h), bn_of q1, bn_of q2]
    rfl
  · unfold F_Reader_unit
    rw [o2L e_rd, o2L (kind_A hX h), if_neg hk, o2L e_rd, o2L (kind_A hX h)]
    have r3 : ¬ J 207 17 = 3 := by rw [kind_R h]; exact fun z => hk (kR_3.mp z)
    by_cases h2 : KD X c = 2
    · have h0 : ¬ KD X c = 0 := by rw [h2]; decide
      have r2 : J 207 17 = 2 := by rw [kind_R h]; exact kR_2.mpr h2
      have hv := val_R h (Or.inl h2)
      unfold F_R_readUnit
      rw [if_pos h2, o2L e_rd, o2L (val_A hX h), o2R e_rd, if_pos r2, o2R e_rd, hv]
      unfold F_R_canAsk
      rcases rng (v := VL X c) 7 15 (by decide) (by decide) with ⟨k, k1, k2, k3⟩ | hout
      · obtain ⟨w1, w2⟩ := rng_in (k := k) (a := 7) (b := 15) (by decide) k1 k2
        have e1 : F_A_within (VL X c) 7 15 = rt 1 := by rw [k3]; exact wi_in w1 w2
        have e2 : F_R_isIn (VL X c) 7 15 = rt 1 := by rw [k3]; exact ri_in w1 w2
        have hlt := kd_lt hX h h0
        have h400 : es.length < 400 := by have := hX.1; have := hX.2.1; omega
        have e7 : VL X c - 7 = nn (k - 7) := by rw [k3]; exact nn_sub (k := 7) k1
        have ec : (-20 : Int32) - VL X c = codOf 1 (nn (k - 7)) := by
          have q := List.all_eq_true.mp ask_cod (k - 7) (List.mem_range.mpr (by omega))
          have q := of_decide_eq_true q
          rw [show k - 7 + 7 = k by omega] at q
          rw [k3]; exact q
        obtain ⟨I1, J1, q1, q2, q3⟩ := p_emit h h400 1 (nn (k - 7)) (Or.inr (Or.inl ⟨rfl, k - 7, by omega, rfl⟩))
        obtain ⟨J2, g1, g2⟩ := p_step hX (stab_DE _ _) q3 h0
        rw [e1, bn_rt, if_neg one_ne, o2L e_rd, o2L (val_A hX h), ec, o2L q1, o2L (step_A hX q3 h0), gdZ1, bn_rt, e2, bn_rt, gdZ1, bn_rt, bn_rt, if_neg one_ne, if_neg one_ne]
        unfold K_R_readUnit_43
        rw [if_neg one_ne, if_neg one_ne, o2R e_rd, hv, e7, o2R q2, o2R g1, o2_rt]
        refine Or.inr ⟨rfl, rfl, _, g2, fun st hs => ⟨0, by decide, ?_⟩⟩
        show tyStep 1 (nn (k - 7)) st = _
        unfold tyStep
        rw [if_neg one_ne, if_pos rfl, if_pos ⟨hs, nn_neg (by omega), (nn_lt (k := 9) (by omega) (by omega)).mpr (by omega)⟩]
      · obtain ⟨I1, J1, f1, f2, f3⟩ := p_fail hX h 1
        have e1 : F_A_within (VL X c) 7 15 = rt 0 := wi_out hout
        have e2 : F_R_isIn (VL X c) 7 15 = rt 0 := ri_out hout
        rw [e1, bn_rt, if_pos rfl, o2L f1, gdZ0, bn_rt, e2, bn_rt, gdZ0, bn_rt, bn_rt, if_pos rfl, if_pos rfl, o2R e_rd, if_neg r3, o2R f2, o2_rt]
        exact Or.inl ⟨rfl, rfl, f3⟩
    · have r2 : ¬ J 207 17 = 2 := by rw [kind_R h]; exact fun z => h2 (kR_2.mp z)
      obtain ⟨I1, J1, f1, f2, f3⟩ := p_fail hX h 1
      unfold F_R_readUnit
      rw [if_neg h2, o2L f1, gdZ0, bn_rt, o2R e_rd, if_neg r2, if_pos rfl, o2R e_rd, if_neg r3, o2R f2, o2_rt]
      exact Or.inl ⟨rfl, rfl, f3⟩
theorem reck_A (hX : Cxt X) {D : MI → MI → Prop} (h : LK X D c I J) : F_Reader_isReckoning I = some (if sg X c 43 ∨ sg X c 45 ∨ sg X c 42 ∨ sg X c 47 then 1 else 0, I) := by
  unfold F_Reader_isReckoning
  rw [bn_of (sign_A hX h 43)]
  by_cases h1 : sg X c 43
  · rw [if_pos (show KD X c = 4 ∧ VL X c = 43 from h1), if_neg one_ne, if_pos (Or.inl h1)]; rfl
  · rw [if_neg (show ¬ (KD X c = 4 ∧ VL X c = 43) from h1), if_pos rfl, bn_of (sign_A hX h 45)]
    by_cases h2 : sg X c 45
    · rw [if_pos (show KD X c = 4 ∧ VL X c = 45 from h2), if_neg one_ne, if_pos (Or.inr (Or.inl h2))]; rfl
    · rw [if_neg (show ¬ (KD X c = 4 ∧ VL X c = 45) from h2), if_pos rfl, bn_of (sign_A hX h 42)]
      by_cases h3 : sg X c 42
      · rw [if_pos (show KD X c = 4 ∧ VL X c = 42 from h3), if_neg one_ne, if_pos (Or.inr (Or.inr (Or.inl h3)))]; rfl
      · rw [if_neg (show ¬ (KD X c = 4 ∧ VL X c = 42) from h3), if_pos rfl, bn_of (sign_A hX h 47)]
        by_cases h4 : sg X c 47
        · rw [if_pos (show KD X c = 4 ∧ VL X c = 47 from h4), if_neg one_ne, if_pos (Or.inr (Or.inr (Or.inr h4)))]; rfl
        · rw [if_neg (show ¬ (KD X c = 4 ∧ VL X c = 47) from h4), if_pos rfl, if_neg (show ¬ (sg X c 43 ∨ sg X c 45 ∨ sg X c 42 ∨ sg X c 47) from fun z => z.elim h1 fun z => z.elim h2 fun z => z.elim h3 h4)]; rfl
end
/-! kinds, of lists of codes -/
def tyL : CL → List Nat → Option (List Nat)
  | [], st => some st
  | x :: r, st => (tyStep x.1 x.2 st).bind (tyL r)
theorem tyL_app : ∀ (a b : CL) (st : List Nat), tyL (a ++ b) st = (tyL a st).bind (tyL b) := by
  intro a
  induction a with
  | nil => intro b st; rfl
  | cons x r ih =>
    intro b st
    show (tyStep x.1 x.2 st).bind (tyL (r ++ b)) = ((tyStep x.1 x.2 st).bind (tyL r)).bind (tyL b)
    cases tyStep x.1 x.2 st with
    | none => rfl
    | some s => exact ih b s
theorem tyL_snoc (a : CL) (x : Int32 × Int32) (st s1 s2 : List Nat) (h : tyL a st = some s1) (h2 : tyStep x.1 x.2 s1 = some s2) : tyL (a ++ [x]) st = some s2 := by
  rw [tyL_app, h]
  show (tyStep x.1 x.2 s1).bind (tyL []) = some s2
  rw [h2]
  rfl
theorem ty_op {o : Int32} {x y : Nat} {r : List Nat} (ho : o = 2 ∨ o = 3 ∨ o = 4) (hx : x ≠ 1) (hy : y ≠ 1) : tyStep o 0 (x :: y :: r) = some (0 :: r) := by
  have h0 : ¬ o = 0 := by rcases ho with e | e | e <;> (rw [e]; decide)
  have h1 : ¬ o = 1 := by rcases ho with e | e | e <;> (rw [e]; decide)
  unfold tyStep
  rw [if_neg h0, if_neg h1]
  show (if o = 2 ∨ o = 3 ∨ o = 4 then (if x ≠ 1 ∧ y ≠ 1 then some (0 :: r) else none) else _) = _
  rw [if_pos ho, if_pos ⟨hx, hy⟩]
theorem ty_div {y : Nat} {r : List Nat} (hy : y ≠ 1) : tyStep 5 0 (2 :: y :: r) = some (0 :: r) := by
  unfold tyStep
  rw [if_neg (by decide), if_neg (by decide)]
  show (if (5 : Int32) = 2 ∨ (5 : Int32) = 3 ∨ (5 : Int32) = 4 then _ else (if (5 : Int32) = 5 then (if (2 : Nat) = 2 ∧ y ≠ 1 then some (0 :: r) else none) else _)) = _
  rw [if_neg (by decide), if_pos rfl, if_pos ⟨rfl, hy⟩]
end TL99
