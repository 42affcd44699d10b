/-! text: one of a condition, and all of it -/
section TP99
variable {X : CX} {H : MI × MI} {d : Nat}
theorem endB_eq (o : Int32) (ho : ¬ o = 0) : endB o = bn (F_R_isSign (41 : Int32)) fun v3 =>
    (if v3 = 0 then
      bn (F_R_errs (1 : Int32)) fun v6 =>
      rt (.inr v6)
    else
      bn (rd 207 31) fun v4 =>
      bn (wr 207 31 (v4 - (1 : Int32))) fun _ =>
      bn (rd 207 29) fun v5 =>
      bn (wr 207 29 (v5 - (1 : Int32))) fun _ =>
      bn (F_R_settles (9 : Int32)) fun _ =>
      bn (F_R_reads) fun _ =>
      rt (.inl ((o - (1 : Int32)), (0 : Int32)))) := if_neg ho
theorem sgl_of (hX : Cxt X) {fc fs : Int32 → M Int32} (hd : d ≤ 8) (hc : d < 8 → CND X H fc (d + 1)) (hs : d < 8 → SGL X H fs (d + 1)) : SGL X H (K_Reader_single_0 (K_Reader_denied_0 fs) (K_Reader_enclosed_0 fc)) d := by
  intro k es W c I J o N hW hL hes hk hWl hN ho
  have hcc := lk_c hX hL
  have hX1 := hX.1
  have hX2 := hX.2.1
  obtain ⟨N, rfl⟩ : ∃ N', N = N' + 1 := ⟨N - 1, by omega⟩
  have hlr : (List.replicate k (9 : Int32) ++ W).length = k + W.length := by rw [List.length_append, List.length_replicate]
  have j29 : J 207 29 = nn d := hL.2.2.2.2.2.2.2.2.2.2.2.2
  have wA6 := wrd_A hX hL 6
  have wR6 := word_R hL 6
  have sA := sign_A hX hL 40
  have sR := sign_R hL 40 rfl
  -- too deep, or one deeper
  have deep : d = 8 → (KD X c = 2 ∧ VL X c = 6 ∨ KD X c = 4 ∧ VL X c = 40) → ∀ v : Int32, ∃ I1 J1, F_Reader_opens (nn d) I = some (0, I1) ∧ K_R_readAny_33 (nn o) 1 v J = some (.inr (-1), J1) ∧ ER X I1 J1 := by
    intro h8 _ v
    subst h8
    obtain ⟨I1, J1, f1, f2, f3⟩ := p_fail hX hL 3
    refine ⟨I1, J1, ?_, ?_, f3⟩
    · unfold F_Reader_opens
      rw [if_neg (by decide), bn_of f1]; rfl
    · unfold K_R_readAny_33
      rw [bn_rd, j29, if_pos (show nn 8 = (8 : Int32) from rfl), bn_of f2]; rfl
  by_cases h6 : KD X c = 2 ∧ VL X c = 6
  · rw [if_pos h6] at wA6 wR6
    have h0 : ¬ KD X c = 0 := by rw [h6.1]; decide
    have eA : K_Reader_single_0 (K_Reader_denied_0 fs) (K_Reader_enclosed_0 fc) (nn d) I = bn (K_Reader_denied_0 fs (nn d)) (fun v8 => bn (gdZ v8) fun _ => rt v8) I := by
      unfold K_Reader_single_0
      rw [bn_of wA6, if_neg one_ne]
    have eB : B_R_readAny_9 (nn o, 1) J = K_R_readAny_33 (nn o) 1 1 J := by
      unfold B_R_readAny_9
      rw [if_neg (show ¬ (nn o, (1 : Int32)).2 = 0 from one_ne), bn_of wR6, if_neg one_ne]
    by_cases h8 : d = 8
    · obtain ⟨I1, J1, f1, f2, f3⟩ := deep h8 (Or.inl h6) 1
      have fd : K_Reader_denied_0 fs (nn d) I = some (0, I1) := by
        unfold K_Reader_denied_0
        rw [bn_of f1, if_pos rfl]; rfl
      refine Or.inl ⟨I1, J1, by rw [eA, bn_of fd]; rfl, ?_, f3⟩
      rw [lp_e, bn_of (eB.trans f2)]; rfl
    · have hd8 : d < 8 := by omega
      have l8 : nn d < (8 : Int32) := (nn_lt (k := 8) (by omega) (by omega)).mpr hd8
      have n8 : ¬ nn d = (8 : Int32) := fun z => h8 ((nn_inj (k := 8) (by omega) (by omega)).mp z)
      obtain ⟨J2, u1, u2⟩ := p_wait (p_dep hL (d + 1)) (by rw [hlr]; omega) 9
      obtain ⟨J3, g1, g2⟩ := p_step hX stab_DC u2 h0
      have g2' : LK X (DC es H (List.replicate (k + 1) 9 ++ W) (d + 1)) (c + 1) (sI I c) J3 := g2
      have eB2 : lp B_R_readAny_9 (N + 1) (nn o, 1) J = lp B_R_readAny_9 N (nn o, 1) J3 := by
        have st : B_R_readAny_9 (nn o, 1) J = some (.inl (nn o, 1), J3) := by
          rw [eB]
          unfold K_R_readAny_33
          rw [bn_rd, j29, if_neg n8, bn_rd, j29, nn_s, bn_wr, if_neg one_ne, if_neg one_ne, bn_of u1, bn_of g1]
          rfl
        rw [lp_e, bn_of st]; rfl
      have fo : F_Reader_opens (nn d) I = some (1, sI I c) := by
        unfold F_Reader_opens
        rw [if_pos l8, bn_of (step_A hX hL h0)]; rfl
      have eA2 : bn (K_Reader_denied_0 fs (nn d)) (fun v8 => bn (gdZ v8) fun _ => rt v8) I = (bn (fs (nn (d + 1))) fun v1 => if v1 = 0 then rt 0 else bn (F_Law_add 95 (-8)) fun _ => rt 1) (sI I c) := by
        unfold K_Reader_denied_0
        rw [bn_bn, bn_of fo, if_neg one_ne, nn_s, bn_bn]
        refine congrFun (congrArg (bn (fs (nn (d + 1)))) (funext fun v1 => ?_)) _
        by_cases hv : v1 = 0
        · rw [if_pos hv, if_pos hv]; rfl
        · rw [if_neg hv, if_neg hv, bn_bn]; rfl
      rw [eA, eA2, eB2]
      rcases hs hd8 (k + 1) es W (c + 1) (sI I c) J3 o N hW g2' (by omega) (by omega) (by omega) (by omega) (by omega) with ⟨I1, J4, s1, s2, s3⟩ | ⟨I1, c', nw, I2, N', J4, s1, s2, s3, s4, s5, s6, s7, s8⟩
      · refine Or.inl ⟨I1, J4, ?_, s2, s3⟩
        rw [bn_of s1, if_pos rfl]; rfl
      · obtain ⟨u, I3, t1, t2⟩ := bn_some (show bn (F_Law_add 95 (-8)) (fun _ => addN k) I1 = some ((), I2) from s5)
        have el : es ++ nw ++ List.replicate (k + 1) ((9 : Int32), (0 : Int32)) = es ++ (nw ++ [(9, 0)]) ++ List.replicate k (9, 0) := by
          rw [List.replicate_succ]
          simp only [List.append_assoc, List.cons_append, List.nil_append]
        rw [el, show d + 1 - (k + 1) = d - k by omega] at s7
        refine Or.inr ⟨I3, c', nw ++ [(9, 0)], I2, N', J4, ?_, by omega, by rw [List.length_append]; show nw.length + 1 + c ≤ c'; omega, fun st hst => ?_, t2, s6, s7, s8⟩
        · rw [bn_of s1, if_neg one_ne, bn_of t1]; rfl
        · exact tyL_snoc _ _ _ _ _ (s4 st (by omega)) (ty_not st)
  · rw [if_neg h6] at wA6 wR6
    by_cases h40 : KD X c = 4 ∧ VL X c = 40
    · rw [if_pos h40] at sA sR
      have h0 : ¬ KD X c = 0 := by rw [h40.1]; decide
      have eA : K_Reader_single_0 (K_Reader_denied_0 fs) (K_Reader_enclosed_0 fc) (nn d) I = bn (K_Reader_enclosed_0 fc (nn d)) (fun v7 => bn (gdZ v7) fun _ => rt v7) I := by
        unfold K_Reader_single_0
        rw [bn_of wA6, if_pos rfl, bn_of sA, if_neg one_ne]
      have eB : B_R_readAny_9 (nn o, 1) J = K_R_readAny_33 (nn o) 1 0 J := by
        unfold B_R_readAny_9
        rw [if_neg (show ¬ (nn o, (1 : Int32)).2 = 0 from one_ne), bn_of wR6, if_pos rfl, bn_of sR, if_neg one_ne]
      by_cases h8 : d = 8
      · obtain ⟨I1, J1, f1, f2, f3⟩ := deep h8 (Or.inr h40) 0
        have fd : K_Reader_enclosed_0 fc (nn d) I = some (0, I1) := by
          unfold K_Reader_enclosed_0
          rw [bn_of f1, if_pos rfl]; rfl
        refine Or.inl ⟨I1, J1, by rw [eA, bn_of fd]; rfl, ?_, f3⟩
        rw [lp_e, bn_of (eB.trans f2)]; rfl
      · have hd8 : d < 8 := by omega
        have l8 : nn d < (8 : Int32) := (nn_lt (k := 8) (by omega) (by omega)).mpr hd8
        have n8 : ¬ nn d = (8 : Int32) := fun z => h8 ((nn_inj (k := 8) (by omega) (by omega)).mp z)
        obtain ⟨J2, u1, u2⟩ := p_wait (p_dep hL (d + 1)) (by rw [hlr]; omega) 12
        obtain ⟨J3, g1, g2⟩ := p_step hX stab_DC u2 h0
        have eB2 : lp B_R_readAny_9 (N + 1) (nn o, 1) J = lp B_R_readAny_9 N (nn (o + 1), 1) J3 := by
          have st : B_R_readAny_9 (nn o, 1) J = some (.inl (nn (o + 1), 1), J3) := by
            rw [eB]
            unfold K_R_readAny_33
            rw [bn_rd, j29, if_neg n8, bn_rd, j29, nn_s, bn_wr, if_pos rfl, if_pos rfl, bn_of u1, bn_of g1, nn_s]
            rfl
          rw [lp_e, bn_of st]; rfl
        have fo : F_Reader_opens (nn d) I = some (1, sI I c) := by
          unfold F_Reader_opens
          rw [if_pos l8, bn_of (step_A hX hL h0)]; rfl
        have eA2 : bn (K_Reader_enclosed_0 fc (nn d)) (fun v7 => bn (gdZ v7) fun _ => rt v7) I = (bn (fc (nn (d + 1))) fun v1 => if v1 = 0 then rt 0 else bn (F_Reader_stepSign 41) fun v3 => if v3 = 0 then rt 0 else rt 1) (sI I c) := by
          unfold K_Reader_enclosed_0
          rw [bn_bn, bn_of fo, if_neg one_ne, nn_s, bn_bn]
          refine congrFun (congrArg (bn (fc (nn (d + 1)))) (funext fun v1 => ?_)) _
          by_cases hv : v1 = 0
          · rw [if_pos hv, if_pos hv]; rfl
          · rw [if_neg hv, if_neg hv, bn_bn]
            refine congrArg (bn (F_Reader_stepSign 41)) (funext fun v3 => ?_)
            by_cases hw : v3 = 0
            · rw [if_pos hw, if_pos hw]; rfl
            · rw [if_neg hw, if_neg hw]; rfl
        rw [eA, eA2, eB2]
        have hlw : (12 :: (List.replicate k (9 : Int32) ++ W)).length = k + W.length + 1 := by rw [← hlr]; rfl
        rcases hc hd8 es (12 :: (List.replicate k 9 ++ W)) (c + 1) (sI I c) J3 (o + 1) N (fun y r h => by cases h; rfl) g2 (by omega) (by rw [hlw]; omega) (by omega) (by omega) with ⟨I1, J4, s1, s2, s3⟩ | ⟨I1, c', nw, N', J4, s1, s2, s3, s4, s5, s6, s7⟩
        · refine Or.inl ⟨I1, J4, ?_, s2, s3⟩
          rw [bn_of s1, if_pos rfl]; rfl
        · have on0 : ¬ nn (o + 1) = 0 := fun z => by
            have := (nn_inj (j := o + 1) (k := 0) (by omega) (by omega)).mp z
            omega
          rw [bn_of s1, if_neg one_ne, s7]
          unfold endK
          rw [endB_eq _ on0, bn_bn]
          have hsA := sign_A hX s6 41
          have hsR := sign_R s6 41 rfl
          unfold F_Reader_stepSign
          by_cases h41 : KD X c' = 4 ∧ VL X c' = 41
          · rw [if_pos h41] at hsA hsR
            have h0' : ¬ KD X c' = 0 := by rw [h41.1]; decide
            have q1 := p_pop s6
            have j31 : J4 207 31 = nn (k + W.length + 1) := by
              have := s6.2.2.2.2.2.2.2.2.2.2.2.1
              rw [hlw] at this
              exact this
            have q29 : bup J4 207 (upd (J4 207) 31 (nn (List.replicate k (9 : Int32) ++ W).length)) 207 29 = nn (d + 1) := q1.2.2.2.2.2.2.2.2.2.2.2.2
            have q2 := p_dep q1 d
            have hc4 := lk_c hX s6
            have hln : (es ++ nw).length = es.length + nw.length := List.length_append
            obtain ⟨I5, J5, r1, r2, r3⟩ := set9 (H := H) (W := W) k (es ++ nw) d I1 _ FU q2 (by omega) hk (by rw [hln]; omega) hW (by rw [FU_eq]; omega)
            obtain ⟨J6, v1, v2⟩ := p_step hX stab_DC r3 h0'
            refine Or.inr ⟨sI I1 c', c' + 1, nw, sI I5 c', N', J6, ?_, by omega, by omega, fun st hst => s4 st (by omega), addN_sI k I1 I5 r1, by omega, v2, ?_⟩
            · rw [bn_bn, bn_of hsA, if_neg one_ne, bn_bn, bn_of (step_A hX s6 h0'), gdZ1]; rfl
            · have r2' : F_R_settles 9 (bup (bup J4 207 (upd (J4 207) 31 (nn (List.replicate k (9 : Int32) ++ W).length))) 207 (upd (bup J4 207 (upd (J4 207) 31 (nn (List.replicate k (9 : Int32) ++ W).length)) 207) 29 (nn d))) = some ((), J5) := r2
              rw [bn_of hsR, if_neg one_ne, bn_bn, bn_rd, j31, bn_bn, show (1 : Int32) = nn 1 from rfl, nn_sub (by omega), Nat.add_sub_cancel, ← hlr, bn_wr, bn_bn, bn_rd, q29, nn_sub (by omega), Nat.add_sub_cancel, bn_bn, bn_wr, bn_bn, bn_of r2', bn_bn, bn_of v1, bn_rt, nn_sub (by omega), Nat.add_sub_cancel]
              rfl
          · rw [if_neg h41] at hsA hsR
            obtain ⟨I5, J5, f1, f2, f3⟩ := p_fail hX s6 1
            refine Or.inl ⟨I5, J5, ?_, ?_, f3⟩
            · rw [bn_bn, bn_of hsA, if_pos rfl, bn_bn, bn_of f1, gdZ0]; rfl
            · rw [bn_of hsR, if_pos rfl, bn_bn, bn_of f2]; rfl
    · rw [if_neg h40] at sA sR
      have eA : K_Reader_single_0 (K_Reader_denied_0 fs) (K_Reader_enclosed_0 fc) (nn d) I = cmpA I := by
        unfold K_Reader_single_0
        rw [bn_of wA6, if_pos rfl, bn_of sA, if_pos rfl]
        rfl
      have eB : B_R_readAny_9 (nn o, 1) J = (bn F_R_readCompared fun v9 => if v9 = -1 then rt (.inr (-1)) else bn (F_R_settles 9) fun _ => rt (.inl (nn o, 0))) J := by
        unfold B_R_readAny_9
        rw [if_neg (show ¬ (nn o, (1 : Int32)).2 = 0 from one_ne), bn_of wR6, if_pos rfl, bn_of sR, if_pos rfl]
      rw [eA]
      obtain ⟨r, I1, s, J1, p1, p2, p3⟩ := p_cmp hX (lk_DE hL) (by omega)
      rcases p3 with ⟨rfl, rfl, hE⟩ | ⟨rfl, rfl, c', nw, q1, q2, q3, q4⟩
      · refine Or.inl ⟨I1, J1, p1, ?_, hE⟩
        have st : B_R_readAny_9 (nn o, 1) J = some (.inr (-1), J1) := by
          rw [eB, bn_of p2, if_pos rfl]; rfl
        rw [lp_e, bn_of st]; rfl
      · have q3' := lk_DC hL q3
        have hc4 := lk_c hX q3'
        have hln : (es ++ nw).length = es.length + nw.length := List.length_append
        obtain ⟨I2, J2, r1, r2, r3⟩ := set9 (H := H) (W := W) k (es ++ nw) d I1 J1 FU q3' (by omega) hk (by rw [hln]; omega) hW (by rw [FU_eq]; omega)
        refine Or.inr ⟨I1, c', nw, I2, N, J2, p1, q1, q2, fun st hst => q4 st (by omega), r1, by omega, r3, ?_⟩
        have st : B_R_readAny_9 (nn o, 1) J = some (.inl (nn o, 0), J2) := by
          rw [eB, bn_of p2, if_neg zm_ne, bn_of (show F_R_settles 9 J1 = some ((), J2) from r2)]; rfl
        rw [lp_e, bn_of st]; rfl
theorem cs_ok (hX : Cxt X) : ∀ n d, d ≤ 8 → (2 * (8 - d) + 2 ≤ n → CND X H (G_Reader_cs n).1 d) ∧ (2 * (8 - d) + 1 ≤ n → SGL X H (G_Reader_cs n).2 d) := by
  intro n
  induction n with
  | zero => intro d hd; exact ⟨fun h => absurd h (by omega), fun h => absurd h (by omega)⟩
  | succ n ih =>
    intro d hd
    refine ⟨fun h => ?_, fun h => ?_⟩
    · exact cond_of hX ((ih d hd).2 (by omega)) hd
    · exact sgl_of hX hd (fun h8 => (ih (d + 1) (by omega)).1 (by omega)) fun h8 => (ih (d + 1) (by omega)).2 (by omega)
theorem p_any (hX : Cxt X) {es : CL} {c : Nat} {I J : MI} {W : List Int32} (hL : LK X (DC es H W 0) c I J) (hes : es.length ≤ c) : Ok2 (F_Reader_condition 0) F_R_readAny I J fun r s I1 J1 => eR X r s I1 J1 ∨ (r = 1 ∧ s = 0 ∧ ∃ c' nw, c < c' ∧ nw.length + c ≤ c' ∧ LK X (DC (es ++ nw) H [] 0) c' I1 J1 ∧ tyL nw [] = some [1]) := by
  have hL2 : LK X (DC es H [] 0) c I (bup J 207 (upd (J 207) 31 (nn 0))) := by
    refine lk_7 hL rfl (by decide) (by decide) (by decide) (by decide) ?_
    obtain ⟨a0, a1, a2, a3, a4, a5, a6, a7, a8, a9⟩ := hL.2.2.2
    refine ⟨codE_J a0 (by decide), a1, a2, ?_, ?_, ?_, ?_, trivial, ?_, ?_⟩
    · rw [bup_ne _ _ (by decide)]; exact a3
    · rw [bup_ne _ _ (by decide)]; exact a4
    · rw [bup_ne _ _ (by decide)]; exact a5
    · rw [bup_ne _ _ (by decide)]; exact a6
    · rw [bup_eq, upd_eq]; rfl
    · rw [bup_eq, upd_ne _ _ (by decide)]; exact a9
  have q := (cs_ok (H := H) hX 60 0 (by decide)).1 (by decide) es [] c I _ 0 FU (fun y r h => by cases h) hL2 hes (Nat.zero_le _) (by rw [FU_eq]; omega) (Nat.le_refl _)
  have eJ : F_R_readAny J = lp B_R_readAny_9 FU (nn 0, 1) (bup J 207 (upd (J 207) 31 (nn 0))) := rfl
  rcases q with ⟨I1, J1, s1, s2, s3⟩ | ⟨I1, c', nw, N', J1, s1, s2, s3, s4, s5, s6, s7⟩
  · exact ⟨0, I1, -1, J1, s1, eJ.trans s2, Or.inl ⟨rfl, rfl, s3⟩⟩
  · refine ⟨1, I1, 0, J1, s1, eJ.trans (s7.trans ?_), Or.inr ⟨rfl, rfl, c', nw, s2, s3, s6, s4 [] (Nat.zero_le _)⟩⟩
    rfl
end TP99
