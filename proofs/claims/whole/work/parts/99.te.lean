/-! text: comparisons, and the reference's waiting stack -/
section TN99
theorem nn_pos {k : Nat} (h : k < 2147483647) : (0 : Int32) < nn (k + 1) := (nn_lt (j := 0) (by omega) (by omega)).mpr (by omega)
variable {X : CX} {es : CL} {G : MI × MI} {c : Nat} {I J : MI}
def cmpA : M Int32 :=
  bn (F_Reader_sum) fun v3 =>
  (if v3 = 0 then
    bn (gdZ (0 : Int32)) fun _ => rt (0 : Int32)
  else
    bn (F_Reader_comparison) fun v4 =>
    (if v4 = 0 then
      bn (F_Reader_fail (1 : Int32)) fun v6 =>
      bn (gdZ v6) fun _ => rt v6
    else
      bn (F_Reader_step) fun _ =>
      bn (F_Reader_sum) fun v5 =>
      (if v5 = 0 then
        bn (gdZ (0 : Int32)) fun _ => rt (0 : Int32)
      else
        bn (F_Law_add 95 v4) fun _ =>
        bn (gdZ (1 : Int32)) fun _ => rt (1 : Int32))))
def CP (X : CX) (es : CL) (G : MI × MI) (c0 : Nat) (r s : Int32) (I J : MI) : Prop := eR X r s I J ∨ (r = 1 ∧ s = 0 ∧ ∃ c nw, c0 < c ∧ nw.length + c0 ≤ c ∧ LK X (DE (es ++ nw) G) c I J ∧ ∀ st : List Nat, st.length ≤ 36 → tyL nw st = some (1 :: st))
theorem cmp_A (hX : Cxt X) {D : MI → MI → Prop} (h : LK X D c I J) : F_Reader_comparison I = some (if sg X c 60 then -5 else if sg X c 61 then -6 else if sg X c 62 then -7 else 0, I) := by
  unfold F_Reader_comparison
  rw [bn_of (sign_A hX h 60)]
  by_cases h1 : sg X c 60
  · rw [if_pos (show KD X c = 4 ∧ VL X c = 60 from h1), if_neg one_ne, if_pos h1]; rfl
  · rw [if_neg (show ¬ (KD X c = 4 ∧ VL X c = 60) from h1), if_pos rfl, if_neg h1, bn_of (sign_A hX h 61)]
    by_cases h2 : sg X c 61
    · rw [if_pos (show KD X c = 4 ∧ VL X c = 61 from h2), if_neg one_ne, if_pos h2]; rfl
    · rw [if_neg (show ¬ (KD X c = 4 ∧ VL X c = 61) from h2), if_pos rfl, if_neg h2, bn_of (sign_A hX h 62)]
      by_cases h3 : sg X c 62
      · rw [if_pos (show KD X c = 4 ∧ VL X c = 62 from h3), if_neg one_ne, if_pos h3]; rfl
      · rw [if_neg (show ¬ (KD X c = 4 ∧ VL X c = 62) from h3), if_pos rfl, if_neg h3]; rfl
theorem ty_cmp {o : Int32} {x y : Nat} {r : List Nat} (ho : o = 6 ∨ o = 7 ∨ o = 8) (hx : x ≠ 1) (hy : y ≠ 1) : tyStep o 0 (x :: y :: r) = some (1 :: r) := by
  have h0 : ¬ o = 0 := by rcases ho with e | e | e <;> (rw [e]; decide)
  have h1 : ¬ o = 1 := by rcases ho with e | e | e <;> (rw [e]; decide)
  have h2 : ¬ (o = 2 ∨ o = 3 ∨ o = 4) := by rcases ho with e | e | e <;> (rw [e]; decide)
  have h5 : ¬ o = 5 := by rcases ho with e | e | e <;> (rw [e]; decide)
  unfold tyStep
  rw [if_neg h0, if_neg h1]
  show (if o = 2 ∨ o = 3 ∨ o = 4 then _ else (if o = 5 then _ else (if o = 6 ∨ o = 7 ∨ o = 8 then (if x ≠ 1 ∧ y ≠ 1 then some (1 :: r) else none) else _))) = _
  rw [if_neg h2, if_neg h5, if_pos ho, if_pos ⟨hx, hy⟩]
theorem comp_R {D : MI → MI → Prop} (h : LK X D c I J) {J1 : MI} (hr : F_R_reads J = some ((), J1)) (o : Int32) (ho : (o = 6 ∧ sg X c 60) ∨ (o = 7 ∧ sg X c 61) ∨ (o = 8 ∧ sg X c 62)) : K_R_readCompared_43 J = (bn F_R_readSum fun v => if v = -1 then rt (-1) else bn (F_R_emits o 0) fun _ => rt 0) J1 := by
  have hk : KD X c = 4 := by rcases ho with e | e | e <;> exact e.2.1
  have ev := val_R h (Or.inr (Or.inr hk))
  unfold K_R_readCompared_43
  rw [bn_rd, ev]
  rcases ho with e | e | e
  · rw [if_pos e.2.2, bn_of hr, e.1]
  · rw [e.2.2, if_neg (by decide), bn_rd, ev, e.2.2, if_pos rfl, bn_of hr, e.1]
  · rw [e.2.2, if_neg (by decide), bn_rd, ev, e.2.2, if_neg (by decide), bn_of hr, e.1]
theorem p_cmp (hX : Cxt X) (hL : LK X (DE es G) c I J) (hes : es.length ≤ c) : Ok2 cmpA F_R_readCompared I J (CP X es G c) := by
  unfold cmpA F_R_readCompared
  refine o2_bn (p_sum hX hL hes) fun r s I1 J1 hP => ?_
  rcases hP with ⟨rfl, rfl, hE⟩ | ⟨rfl, rfl, c1, nw, hc1, hn1, hL1, ht1⟩
  · rw [if_pos rfl, if_pos rfl, gdZ0, bn_rt, o2_rt]
    exact Or.inl ⟨rfl, rfl, hE⟩
  · rw [if_neg one_ne, if_neg (by decide), o2L (cmp_A hX hL1)]
    by_cases hs : sg X c1 60 ∨ sg X c1 61 ∨ sg X c1 62
    · have k4 : KD X c1 = 4 := by rcases hs with z | z | z <;> exact z.1
      have h0 : ¬ KD X c1 = 0 := by rw [k4]; decide
      obtain ⟨o, ho, hoo, hv⟩ : ∃ o : Int32, ((o = 6 ∧ sg X c1 60) ∨ (o = 7 ∧ sg X c1 61) ∨ (o = 8 ∧ sg X c1 62)) ∧ (o = 6 ∨ o = 7 ∨ o = 8) ∧ (if sg X c1 60 then -5 else if sg X c1 61 then -6 else if sg X c1 62 then -7 else 0) = codOf o 0 := by
        by_cases z : sg X c1 60
        · exact ⟨6, Or.inl ⟨rfl, z⟩, Or.inl rfl, by rw [if_pos z]; rfl⟩
        · by_cases z2 : sg X c1 61
          · exact ⟨7, Or.inr (Or.inl ⟨rfl, z2⟩), Or.inr (Or.inl rfl), by rw [if_neg z, if_pos z2]; rfl⟩
          · have z3 := (hs.resolve_left z).resolve_left z2
            exact ⟨8, Or.inr (Or.inr ⟨rfl, z3⟩), Or.inr (Or.inr rfl), by rw [if_neg z, if_neg z2, if_pos z3]; rfl⟩
      have hv0 : ¬ codOf o 0 = 0 := by rcases hoo with e | e | e <;> (rw [e]; decide)
      obtain ⟨J2, g1, g2⟩ := p_step hX (stab_DE _ _) hL1 h0
      have eR : (bn (F_R_isSign (60 : Int32)) fun v2 =>
          (if v2 = 0 then
            bn (F_R_isSign (61 : Int32)) fun v3 =>
            (if v3 = 0 then
              bn (F_R_isSign (62 : Int32)) fun v4 =>
              (if v4 = 0 then
                bn (F_R_errs (1 : Int32)) fun v5 =>
                rt v5
              else
                K_R_readCompared_43)
            else
              K_R_readCompared_43)
          else
            K_R_readCompared_43)) J1 = K_R_readCompared_43 J1 := by
        by_cases z : sg X c1 60
        · rw [bn_of (yes_sg hL1 rfl z), if_neg one_ne]
        · rw [bn_of (no_sg hL1 rfl z), if_pos rfl]
          by_cases z2 : sg X c1 61
          · rw [bn_of (yes_sg hL1 rfl z2), if_neg one_ne]
          · rw [bn_of (no_sg hL1 rfl z2), if_pos rfl, bn_of (yes_sg hL1 rfl ((hs.resolve_left z).resolve_left z2)), if_neg one_ne]
      rw [hv, if_neg hv0, o2L (step_A hX hL1 h0)]
      refine o2_eq rfl (eR.trans (comp_R hL1 g1 o ho)) ?_
      have hl2 : (es ++ nw).length = es.length + nw.length := List.length_append
      refine o2_bn (p_sum hX g2 (by rw [hl2]; omega)) fun r s I3 J3 hP => ?_
      rcases hP with ⟨rfl, rfl, hE⟩ | ⟨rfl, rfl, c3, nw3, hc3, hn3, hL3, ht3⟩
      · rw [if_pos rfl, if_pos rfl, gdZ0, bn_rt, o2_rt]
        exact Or.inl ⟨rfl, rfl, hE⟩
      · have hl3 : (es ++ nw ++ nw3).length = es.length + nw.length + nw3.length := by rw [List.length_append, List.length_append]
        have hc400 := lk_c hX hL3
        obtain ⟨I4, J4, q1, q2, q3⟩ := p_emit hL3 (by rw [hl3]; omega) o 0 (hoo.elim (fun e => n9 6 e (by decide) (by decide)) fun z => z.elim (fun e => n9 7 e (by decide) (by decide)) fun e => n9 8 e (by decide) (by decide))
        rw [if_neg one_ne, if_neg (by decide), o2L q1, gdZ1, bn_rt, o2R q2, o2_rt]
        rw [List.append_assoc, List.append_assoc] at q3
        refine Or.inr ⟨rfl, rfl, c3, nw ++ (nw3 ++ [(o, 0)]), by omega, ?_, q3, fun st hst => ?_⟩
        · rw [List.length_append, List.length_append]
          show nw.length + (nw3.length + 1) + c ≤ c3
          omega
        · obtain ⟨z, hz, t1⟩ := ht1 st (by omega)
          obtain ⟨w, hw, t3⟩ := ht3 (z :: st) (by show st.length + 1 ≤ 37; omega)
          rw [tyL_app, t1]
          exact tyL_snoc _ _ _ _ _ t3 (ty_cmp hoo hw hz)
    · have n1 : ¬ sg X c1 60 := fun z => hs (Or.inl z)
      have n2 : ¬ sg X c1 61 := fun z => hs (Or.inr (Or.inl z))
      have n3 : ¬ sg X c1 62 := fun z => hs (Or.inr (Or.inr z))
      obtain ⟨I2, J2, f1, f2, f3⟩ := p_fail hX hL1 1
      rw [if_neg n1, if_neg n2, if_neg n3, if_pos rfl, o2L f1, gdZ0, bn_rt, o2R (no_sg hL1 rfl n1), if_pos rfl, o2R (no_sg hL1 rfl n2), if_pos rfl, o2R (no_sg hL1 rfl n3), if_pos rfl, o2R f2, o2_rt]
      exact Or.inl ⟨rfl, rfl, f3⟩
/-! what waits -/
def wsR : List Int32 → (Nat → Int32) → Prop
  | [], _ => True
  | x :: r, f => f r.length = x ∧ wsR r f
theorem wsR_co : ∀ (W : List Int32) (f g : Nat → Int32), (∀ k, k < W.length → f k = g k) → wsR W f → wsR W g := by
  intro W
  induction W with
  | nil => intro f g _ _; trivial
  | cons x r ih =>
    intro f g h hw
    exact ⟨by rw [← h r.length (Nat.lt_succ_self _)]; exact hw.1, ih f g (fun k hk => h k (Nat.lt_succ_of_lt hk)) hw.2⟩
def DC (es : CL) (H : MI × MI) (W : List Int32) (d : Nat) (I J : MI) : Prop := codE es I J ∧ I 96 = H.1 96 ∧ I 97 = H.1 97 ∧ J 219 = H.2 219 ∧ J 220 = H.2 220 ∧ J 221 = H.2 221 ∧ J 222 = H.2 222 ∧ wsR W (J 225) ∧ J 207 31 = nn W.length ∧ J 207 29 = nn d
variable {H : MI × MI} {W : List Int32} {d : Nat}
theorem stab_DC : stab (DC es H W d) := by
  intro I J I1 J1 h1 h2 h3 h
  unfold DC codE at h ⊢
  rw [h1 95 (by omega) (by omega), h1 96 (by omega) (by omega), h1 97 (by omega) (by omega), h1 98 (by omega) (by omega), h2 219 (by omega) (by omega), h2 220 (by omega) (by omega), h2 221 (by omega) (by omega), h2 222 (by omega) (by omega), h2 223 (by omega) (by omega), h2 224 (by omega) (by omega), h2 225 (by omega) (by omega), h3 28 (Or.inl rfl), h3 29 (Or.inr (Or.inl rfl)), h3 31 (Or.inr (Or.inr rfl))]
  exact h
theorem lk_DE (h : LK X (DC es H W d) c I J) : LK X (DE es (I, J)) c I J := lk_D h ⟨h.2.2.2.1, rfl, rfl, rfl, rfl, rfl, rfl, rfl, rfl, rfl⟩
theorem lk_DC {I0 J0 : MI} {fs : CL} {b : Nat} (h0 : LK X (DC es H W d) b I0 J0) (h : LK X (DE fs (I0, J0)) c I J) : LK X (DC fs H W d) c I J := by
  obtain ⟨_, _, _, _, a1, a2, a3, a4, a5, a6, a7, a8, a9⟩ := h0
  refine lk_D h ⟨h.2.2.2.1, ?_⟩
  obtain ⟨_, _, _, _, b1, b2, b3, b4, b5, b6, b7, b8, b9⟩ := h
  rw [b1, b2, b3, b4, b5, b6, b7, b8, b9]
  exact ⟨a1, a2, a3, a4, a5, a6, a7, a8, a9⟩
theorem lk_7 {D2 : MI → MI → Prop} {D : MI → MI → Prop} {k : Nat} {x : Int32} (h : LK X D c I J) (hk : kpJ 207 k = false) (h1 : k ≠ 15) (h2 : k ≠ 16) (h3 : k ≠ 17) (h4 : k ≠ 18) (hd : D2 I (bup J 207 (upd (J 207) k x))) : LK X D2 c I (bup J 207 (upd (J 207) k x)) := by
  obtain ⟨g1, g2, ⟨r1, r2, r3, r4, r5⟩, g4⟩ := h
  refine ⟨g1, g2, ⟨?_, ?_, ?_, ?_, fj_set r5 hk⟩, hd⟩
  · rw [bup_eq, upd_ne _ _ (Ne.symm h1)]; exact r1
  · rw [bup_eq, upd_ne _ _ (Ne.symm h2)]; exact r2
  · rw [bup_eq, upd_ne _ _ (Ne.symm h3)]; exact r3
  · rw [bup_eq, upd_ne _ _ (Ne.symm h4)]; exact r4
theorem codE_J {k : Nat} {x : Int32} (h : codE es I J) (hk : k ≠ 28) : codE es I (bup J 207 (upd (J 207) k x)) := by
  unfold codE at h ⊢
  rw [bup_eq, upd_ne _ _ (Ne.symm hk), bup_ne _ _ (by decide), bup_ne _ _ (by decide)]
  exact h
theorem codE_R {g : Nat → Int32} {a : Nat} (h : codE es I J) (h1 : a ≠ 207) (h2 : a ≠ 223) (h3 : a ≠ 224) : codE es I (bup J a g) := by
  unfold codE at h ⊢
  rw [bup_ne _ _ (Ne.symm h1), bup_ne _ _ (Ne.symm h2), bup_ne _ _ (Ne.symm h3)]
  exact h
theorem p_wait (h : LK X (DC es H W d) c I J) (hw : W.length < 40) (x : Int32) : ∃ J1, F_R_waits x J = some ((), J1) ∧ LK X (DC es H (x :: W) d) c I J1 := by
  have hd := h.2.2.2
  have hK : ∃ K, K = bup J 225 (upd (J 225) W.length x) := ⟨_, rfl⟩
  obtain ⟨K, eK⟩ := hK
  have k31 : K 207 31 = nn W.length := by rw [eK, bup_ne _ _ (by decide)]; exact hd.2.2.2.2.2.2.2.2.1
  have h1 : LK X (DC es H W d) c I K := by
    rw [eK]
    refine lk_J h (by simp [kpJ]) (by decide) ?_
    obtain ⟨a0, a1, a2, a3, a4, a5, a6, a7, a8, a9⟩ := hd
    refine ⟨codE_R a0 (by decide) (by decide) (by decide), a1, a2, ?_, ?_, ?_, ?_, ?_, ?_, ?_⟩
    · rw [bup_ne _ _ (by decide)]; exact a3
    · rw [bup_ne _ _ (by decide)]; exact a4
    · rw [bup_ne _ _ (by decide)]; exact a5
    · rw [bup_ne _ _ (by decide)]; exact a6
    · rw [bup_eq]
      exact wsR_co W _ _ (fun k hk => by rw [upd_ne _ _ (by omega)]) a7
    · rw [bup_ne _ _ (by decide)]; exact a8
    · rw [bup_ne _ _ (by decide)]; exact a9
  refine ⟨bup K 207 (upd (K 207) 31 (nn (W.length + 1))), ?_, ?_⟩
  · unfold F_R_waits
    rw [bn_rd, hd.2.2.2.2.2.2.2.2.1, bn_sr _ _ (inR_nn hw (by omega)), nn_nat (by omega), ← eK, bn_rd, k31, nn_s, bn_wr]
    rfl
  · refine lk_7 h1 rfl (by decide) (by decide) (by decide) (by decide) ?_
    obtain ⟨a0, a1, a2, a3, a4, a5, a6, a7, a8, a9⟩ := h1.2.2.2
    refine ⟨codE_J a0 (by decide), a1, a2, ?_, ?_, ?_, ?_, ⟨?_, ?_⟩, ?_, ?_⟩
    · rw [bup_ne _ _ (by decide)]; exact a3
    · rw [bup_ne _ _ (by decide)]; exact a4
    · rw [bup_ne _ _ (by decide)]; exact a5
    · rw [bup_ne _ _ (by decide)]; exact a6
    · rw [bup_ne _ _ (by decide), eK, bup_eq, upd_eq]
    · rw [bup_ne _ _ (by decide)]; exact a7
    · rw [bup_eq, upd_eq]; rfl
    · rw [bup_eq, upd_ne _ _ (by decide)]; exact a9
theorem p_dep (h : LK X (DC es H W d) c I J) (e : Nat) : LK X (DC es H W e) c I (bup J 207 (upd (J 207) 29 (nn e))) := by
  refine lk_7 h rfl (by decide) (by decide) (by decide) (by decide) ?_
  obtain ⟨a0, a1, a2, a3, a4, a5, a6, a7, a8, a9⟩ := h.2.2.2
  refine ⟨codE_J a0 (by decide), a1, a2, ?_, ?_, ?_, ?_, ?_, ?_, ?_⟩
  · rw [bup_ne _ _ (by decide)]; exact a3
  · rw [bup_ne _ _ (by decide)]; exact a4
  · rw [bup_ne _ _ (by decide)]; exact a5
  · rw [bup_ne _ _ (by decide)]; exact a6
  · rw [bup_ne _ _ (by decide)]; exact a7
  · rw [bup_eq, upd_ne _ _ (by decide)]; exact a8
  · rw [bup_eq, upd_eq]
theorem p_pop {x : Int32} (h : LK X (DC es H (x :: W) d) c I J) : LK X (DC es H W d) c I (bup J 207 (upd (J 207) 31 (nn W.length))) := by
  refine lk_7 h rfl (by decide) (by decide) (by decide) (by decide) ?_
  obtain ⟨a0, a1, a2, a3, a4, a5, a6, a7, a8, a9⟩ := h.2.2.2
  refine ⟨codE_J a0 (by decide), a1, a2, ?_, ?_, ?_, ?_, ?_, ?_, ?_⟩
  · rw [bup_ne _ _ (by decide)]; exact a3
  · rw [bup_ne _ _ (by decide)]; exact a4
  · rw [bup_ne _ _ (by decide)]; exact a5
  · rw [bup_ne _ _ (by decide)]; exact a6
  · rw [bup_ne _ _ (by decide)]; exact a7.2
  · rw [bup_eq, upd_eq]
  · rw [bup_eq, upd_ne _ _ (by decide)]; exact a9
theorem set_no {x : Int32} (h : LK X (DC es H W d) c I J) (hw : W.length ≤ 40) (hx : ∀ y r, W = y :: r → ¬ y = x) (N : Nat) : lp (B_R_settles_0 x) (N + 1) () J = some ((), J) := by
  obtain ⟨a0, a1, a2, a3, a4, a5, a6, a7, a8, a9⟩ := h.2.2.2
  have st : B_R_settles_0 x () J = some (.inr (), J) := by
    unfold B_R_settles_0
    rw [bn_rd, a8]
    cases W with
    | nil => rw [if_neg (by decide)]; rfl
    | cons y r =>
      have hl : (y :: r).length = r.length + 1 := rfl
      rw [hl] at hw a8 ⊢
      rw [if_pos (nn_pos (by omega)), bn_rd, a8, show (1 : Int32) = nn 1 from rfl, nn_sub (by omega), Nat.add_sub_cancel, bn_ld _ _ (inR_nn (by omega) (by omega)), nn_nat (by omega), a7.1, if_neg (hx y r rfl)]
      rfl
  rw [lp_s, bn_of st]
  rfl
theorem set_yes {x : Int32} (h : LK X (DC es H (x :: W) d) c I J) (hw : W.length < 40) (he : es.length < 400) (hx : x = 9 ∨ x = 10 ∨ x = 11) (hd1 : x = 9 → 0 < d) : ∃ I1 J1, F_Law_add 95 (codOf x 0) I = some ((), I1) ∧ B_R_settles_0 x () J = some (.inl (), J1) ∧ LK X (DC (es ++ [(x, 0)]) H W (if x = 9 then d - 1 else d)) c I1 J1 := by
  obtain ⟨a0, a1, a2, a3, a4, a5, a6, a7, a8, a9⟩ := h.2.2.2
  have h1 := p_pop h
  have hin : isInt9 x 0 := hx.elim (fun e => n9 9 e (by decide) (by decide)) fun z => z.elim (fun e => n9 10 e (by decide) (by decide)) fun e => n9 11 e (by decide) (by decide)
  obtain ⟨I1, J1, q1, q2, q3⟩ := p_emit (lk_DE h1) he x 0 hin
  have q4 := lk_DC h1 q3
  have hl : (x :: W).length = W.length + 1 := rfl
  rw [hl] at a8
  have go : B_R_settles_0 x () J = (if x = 9 then bn (rd 207 29) fun v5 => bn (wr 207 29 (v5 - (1 : Int32))) fun _ => rt (.inl ()) else rt (.inl ())) J1 := by
    unfold B_R_settles_0
    rw [bn_rd, a8, if_pos (nn_pos (by omega)), bn_rd, a8, show (1 : Int32) = nn 1 from rfl, nn_sub (by omega), Nat.add_sub_cancel, bn_ld _ _ (inR_nn (by omega) (by omega)), nn_nat (by omega), a7.1, if_pos rfl, bn_rd, a8, nn_sub (by omega), Nat.add_sub_cancel, bn_wr, bn_of q2]
  by_cases h9 : x = 9
  · have d0 := hd1 h9
    refine ⟨I1, bup J1 207 (upd (J1 207) 29 (nn (d - 1))), q1, ?_, ?_⟩
    · rw [go, if_pos h9, bn_rd, q4.2.2.2.2.2.2.2.2.2.2.2.2, show (1 : Int32) = nn 1 from rfl, nn_sub (by omega), bn_wr]
      rfl
    · rw [if_pos h9]
      exact p_dep q4 (d - 1)
  · refine ⟨I1, J1, q1, ?_, ?_⟩
    · rw [go, if_neg h9]; rfl
    · rw [if_neg h9]; exact q4
def addN : Nat → M Unit
  | 0 => rt ()
  | k + 1 => bn (F_Law_add 95 (-8)) fun _ => addN k
theorem set9 : ∀ (k : Nat) (es : CL) (d : Nat) (I J : MI) (N : Nat), LK X (DC es H (List.replicate k 9 ++ W) d) c I J → k + W.length ≤ 40 → k ≤ d → es.length + k ≤ 400 → (∀ y r, W = y :: r → ¬ y = 9) → k < N → ∃ I2 J2, addN k I = some ((), I2) ∧ lp (B_R_settles_0 9) N () J = some ((), J2) ∧ LK X (DC (es ++ List.replicate k (9, 0)) H W (d - k)) c I2 J2 := by
  intro k
  induction k with
  | zero =>
    intro es d I J N h hw hd he hW hN
    obtain ⟨N, rfl⟩ : ∃ N', N = N' + 1 := ⟨N - 1, by omega⟩
    rw [List.replicate_zero, List.nil_append] at h
    rw [List.replicate_zero, List.append_nil]
    exact ⟨I, J, rfl, set_no h (by omega) hW N, h⟩
  | succ k ih =>
    intro es d I J N h hw hd he hW hN
    obtain ⟨N, rfl⟩ : ∃ N', N = N' + 1 := ⟨N - 1, by omega⟩
    have hl : (List.replicate k (9 : Int32) ++ W).length = k + W.length := by rw [List.length_append, List.length_replicate]
    have h' : LK X (DC es H (9 :: (List.replicate k 9 ++ W)) d) c I J := h
    obtain ⟨I1, J1, q1, q2, q3⟩ := set_yes h' (by rw [hl]; omega) (by omega) (Or.inl rfl) (fun _ => by omega)
    rw [if_pos rfl] at q3
    obtain ⟨I2, J2, w1, w2, w3⟩ := ih (es ++ [(9, 0)]) (d - 1) I1 J1 N q3 (by omega) (by omega) (by rw [List.length_append]; show es.length + 1 + k ≤ 400; omega) hW (by omega)
    refine ⟨I2, J2, ?_, ?_, ?_⟩
    · show bn (F_Law_add 95 (-8)) (fun _ => addN k) I = _
      rw [bn_of (show F_Law_add 95 (-8) I = some ((), I1) from cod_9 ▸ q1)]
      exact w1
    · rw [lp_s, bn_of q2]; exact w2
    · rw [List.append_assoc] at w3
      rw [show d - (k + 1) = d - 1 - k by omega]
      exact w3
end TN99
