/-! text: a line of the law, from its word on -/
section TR99
theorem seg_ty (a b e : CL) : tyRun (opE (a ++ b ++ e)) (arE (a ++ b ++ e)) a.length b.length [] = tyL b [] := by
  refine tyRun_L b a.length [] fun j hj => ?_
  unfold opE arE
  rw [List.append_assoc, gdA_ge, gdA_lt hj]
  exact ⟨rfl, rfl⟩
theorem seg_ty2 (a b : CL) : tyRun (opE (a ++ b)) (arE (a ++ b)) a.length b.length [] = tyL b [] := by
  have h := seg_ty a b []
  rw [List.append_nil] at h
  exact h
def wLw (X : CX) (c : Nat) : Prop := KD X c = 2 ∧ ∃ v, v < 3 ∧ VL X c = nn v
section
variable {X : CX} {c n : Nat} {I J : MI}
theorem lineW_R {D : MI → MI → Prop} (h : LK X D c I J) (hw : wLw X c) : F_R_isLineWord J = some (1, J) := by
  obtain ⟨h2, v, hv, ev⟩ := hw
  obtain ⟨w1, w2⟩ := rng_in (k := v) (a := 0) (b := 2) (by decide) (Nat.zero_le _) (by omega)
  have e2 : F_R_isIn (VL X c) 0 2 = rt 1 := by rw [ev]; exact ri_in w1 w2
  unfold F_R_isLineWord
  rw [bn_rd, kind_R h, if_pos (kR_2.mpr h2), bn_rd, val_R h (Or.inl h2), e2, bn_rt, if_neg one_ne]
  rfl
theorem lineN_R {D : MI → MI → Prop} (h : LK X D c I J) (hw : ¬ wLw X c) : F_R_isLineWord J = some (0, J) := by
  unfold F_R_isLineWord
  rw [bn_rd, kind_R h]
  by_cases h2 : KD X c = 2
  · have hout : VL X c < 0 ∨ 2 < VL X c := by
      rcases rng (v := VL X c) 0 2 (by decide) (by decide) with ⟨k, _, k2, k3⟩ | q
      · exact absurd ⟨h2, k, by omega, k3⟩ hw
      · exact q
    rw [if_pos (kR_2.mpr h2), bn_rd, val_R h (Or.inl h2), ri_out hout, bn_rt, if_pos rfl]
    rfl
  · rw [if_neg fun z => h2 (kR_2.mp z)]
    rfl
theorem law_no (hX : Cxt X) {D : MI → MI → Prop} (h : LK X D c I J) (hw : ¬ wLw X c) (y : Int32) : B_R_readLaw_2 y J = some (.inr (.inl y), J) ∧ ∃ I1 J1, F_Reader_lawLine I = some (0, I1) ∧ F_R_errs 1 J = some (-1, J1) ∧ ER X I1 J1 := by
  refine ⟨?_, ?_⟩
  · unfold B_R_readLaw_2
    rw [bn_of (lineN_R h hw), if_pos rfl]
    rfl
  · obtain ⟨I1, J1, f1, f2, f3⟩ := p_fail hX h 1
    refine ⟨I1, J1, ?_, f2, f3⟩
    unfold F_Reader_lawLine
    rw [bn_rd, bn_of (kind_A hX h)]
    by_cases h2 : KD X c = 2
    · have hout : VL X c < 0 ∨ 2 < VL X c := by
        rcases rng (v := VL X c) 0 2 (by decide) (by decide) with ⟨k, _, k2, k3⟩ | q
        · exact absurd ⟨h2, k, by omega, k3⟩ hw
        · exact q
      rw [if_pos h2, bn_rd, bn_of (val_A hX h), wi_out hout, bn_rt, if_pos rfl, bn_of f1]
      rfl
    · rw [if_neg h2, wi_out (Or.inl (by decide)), bn_rt, if_pos rfl, bn_of f1]
      rfl
theorem law_yes (hX : Cxt X) (h0 : X.2.2.2.1 96 0 = nn 4) (h1 : X.2.2.2.1 96 1 = nn 16) (hS : sLw X n c I J) (hw : wLw X c) : Ok2 F_Reader_lawLine (B_R_readLaw_2 (nn n)) I J (bR X (sLw X) n c) := by
  obtain ⟨es, hes, hL⟩ := hS
  have hwR := lineW_R hL hw
  obtain ⟨h2, v, hv, ev⟩ := hw
  obtain ⟨d0, d1, d2, d3, d4⟩ := hL.2.2.2
  have hk0 : ¬ KD X c = 0 := by rw [h2]; decide
  obtain ⟨w1, w2⟩ := rng_in (k := v) (a := 0) (b := 2) (by decide) (Nat.zero_le _) (by omega)
  have e1 : F_A_within (VL X c) 0 2 = rt 1 := by rw [ev]; exact wi_in w1 w2
  have r1 : I 96 1 = nn 16 := by rw [hL.2.1.2.2.2 96 1 rfl]; exact h1
  have hcc := lk_c hX hL
  unfold F_Reader_lawLine B_R_readLaw_2
  rw [o2L e_rd, o2L (kind_A hX hL), if_pos h2, o2L e_rd, o2L (val_A hX hL), e1, bn_rt, if_neg one_ne, o2R hwR, if_neg one_ne]
  rcases p_open hX hL (VL X c) 96 n d2 r1 d1 ⟨h2, rfl⟩ with ⟨hn, op⟩ | ⟨hn, I1, J1, f1, f2, f3⟩
  · have n16 : ¬ nn n = (16 : Int32) := fun z => by have := (nn_inj (k := 16) (by omega) (by omega)).mp z; omega
    have x32 : (32 : Int32) + nn n = nn (32 + n) := nn_add 32 n
    have i32 : inR (nn (32 + n)) 48 = true := inR_nn (by omega) (by omega)
    have t32 : (nn (32 + n)).toNatClampNeg = 32 + n := nn_nat (by omega)
    rw [o2L op, if_neg one_ne, if_neg n16, x32, o2R e_rd, val_R hL (Or.inl h2), o2R (e_sr i32), t32]
    obtain ⟨J1, eJ1⟩ : ∃ J1, J1 = bup J 219 (upd (J 219) (32 + n) (VL X c)) := ⟨_, rfl⟩
    have hL1 : LK X (DF es (I, J1)) c I J1 := by
      rw [eJ1]
      refine lk_J hL (by simp [kpJ]) (by decide) ⟨codE_R d0 (by decide) (by decide) (by decide), rfl, rfl, rfl, rfl, rfl, rfl, ?_⟩
      rw [bup_ne _ _ (by decide)]; exact d3
    rw [← eJ1]
    obtain ⟨J2, g1, g2⟩ := p_step hX stab_DF hL1 hk0
    obtain ⟨b0, b1, b2, b3, b4, b5, b6, b7⟩ := g2.2.2.2
    rw [o2R g1, o2R e_rd, b0.2.2.1, o2R (e_sr i32), t32, o2L e_rd, b0.2.1]
    obtain ⟨J3, eJ3⟩ : ∃ J3, J3 = bup J2 220 (upd (J2 220) (32 + n) (nn es.length)) := ⟨_, rfl⟩
    have hL3 : LK X (DF es (I, J3)) (c + 1) (sI I c) J3 := by
      rw [eJ3]
      refine lk_J g2 (by simp [kpJ]) (by decide) ⟨codE_R b0 (by decide) (by decide) (by decide), b1, b2, rfl, rfl, rfl, rfl, ?_⟩
      rw [bup_ne _ _ (by decide)]; exact b7
    rw [← eJ3]
    refine o2_bn (df_sum hX hL3 (by omega)) fun r s I4 J4 hP => ?_
    rcases hP with ⟨rfl, rfl, hE⟩ | ⟨rfl, rfl, c2, nw, hc2, hl2, hL4, z, hz, hty⟩
    · rw [if_pos rfl, if_pos rfl, gdZ0, bn_rt, o2_rt]
      exact Or.inl ⟨rfl, rfl, hE⟩
    · obtain ⟨a0, a1, a2, a3, a4, a5, a6, a7⟩ := hL4.2.2.2
      have hc2' := lk_c hX hL4
      have hll : (es ++ nw).length = es.length + nw.length := List.length_append
      rw [if_neg one_ne, if_neg zm_ne, o2L e_rd, a0.2.1, o2R e_rd, a0.2.2.1, o2R (e_sr i32), t32]
      obtain ⟨J5, eJ5⟩ : ∃ J5, J5 = bup J4 221 (upd (J4 221) (32 + n) (nn (es ++ nw).length)) := ⟨_, rfl⟩
      have hL5 : LK X (DF (es ++ nw) (I, J5)) c2 I4 J5 := by
        rw [eJ5]
        refine lk_J hL4 (by simp [kpJ]) (by decide) ⟨codE_R a0 (by decide) (by decide) (by decide), a1, a2, rfl, rfl, rfl, rfl, ?_⟩
        rw [bup_ne _ _ (by decide)]; exact a7
      have q9 : J5 219 = upd (J 219) (32 + n) (VL X c) := by
        rw [eJ5, bup_ne _ _ (by decide), a3]
        show J3 219 = _
        rw [eJ3, bup_ne _ _ (by decide), b3]
        show J1 219 = _
        rw [eJ1, bup_eq]
      have q20 : J5 220 = upd (J 220) (32 + n) (nn es.length) := by
        rw [eJ5, bup_ne _ _ (by decide), a4]
        show J3 220 = _
        rw [eJ3, bup_eq, b4]
        show upd (J1 220) _ _ = _
        rw [eJ1, bup_ne _ _ (by decide)]
      have q21 : J5 221 = upd (J 221) (32 + n) (nn (es ++ nw).length) := by
        rw [eJ5, bup_eq, a5]
        show upd (J3 221) _ _ = _
        rw [eJ3, bup_ne _ _ (by decide), b5]
        show upd (J1 221) _ _ = _
        rw [eJ1, bup_ne _ _ (by decide)]
      have q22 : J5 222 = J 222 := by
        rw [eJ5, bup_ne _ _ (by decide), a6]
        show J3 222 = _
        rw [eJ3, bup_ne _ _ (by decide), b6]
        show J1 222 = _
        rw [eJ1, bup_ne _ _ (by decide)]
      have hln : ∀ i, i < n → LN es I J5 i := fun i hi => LN_up (d4 i hi) hi (fun k hk => by rw [q9, upd_ne _ _ hk]) (fun k hk => by rw [q20, upd_ne _ _ hk]) (fun k hk => by rw [q21, upd_ne _ _ hk]) (fun k hk => by rw [q22])
      rw [← eJ5, o2L (wrd_A hX hL5 3), o2R (word_R hL5 3)]
      by_cases hw3 : KD X c2 = 2 ∧ VL X c2 = 3
      · have hk3 : ¬ KD X c2 = 0 := by rw [hw3.1]; decide
        obtain ⟨J6, g3, g4⟩ := p_step hX stab_DF hL5 hk3
        rw [if_pos hw3, if_neg one_ne, if_neg one_ne, o2L (step_A hX hL5 hk3), o2R g3]
        refine o2_bn (df_any hX g4 (by rw [hll]; omega)) fun r s I7 J7 hP => ?_
        rcases hP with ⟨rfl, rfl, hE⟩ | ⟨rfl, rfl, c3, nw2, hc3, hl3, hL7, hty2⟩
        · rw [if_pos rfl, if_pos rfl, gdZ0, bn_rt, o2_rt]
          exact Or.inl ⟨rfl, rfl, hE⟩
        · have hll3 : (es ++ nw ++ nw2).length = es.length + nw.length + nw2.length := by rw [List.length_append, List.length_append]
          rw [if_neg one_ne, if_neg zm_ne, ev]
          refine law_fin hX h0 h1 (c0 := c) (by omega) hL7 (by rw [hll3]; omega) hn d2 (fun i hi => ?_) hv (f := es.length) (m := (es ++ nw).length) (by omega) (by omega) (by show J5 219 _ = _; rw [q9, upd_eq, ev]) (by show J5 220 _ = _; rw [q20, upd_eq]) (by show J5 221 _ = _; rw [q21, upd_eq]) ⟨z, hz, ?_⟩ fun _ => ?_
          · rw [List.append_assoc]
            exact LN_app (hln i hi)
          · rw [show (es ++ nw).length - es.length = nw.length by omega, seg_ty]
            exact hty
          · rw [show (es ++ nw ++ nw2).length - (es ++ nw).length = nw2.length by omega, seg_ty2]
            exact hty2
      · rw [if_neg hw3, if_pos rfl, if_pos rfl, ev]
        refine law_fin hX h0 h1 (c0 := c) (by omega) hL5 (by rw [hll]; omega) hn d2 (fun i hi => ?_) hv (f := es.length) (m := (es ++ nw).length) (by omega) (by omega) (by show J5 219 _ = _; rw [q9, upd_eq, ev]) (by show J5 220 _ = _; rw [q20, upd_eq]) (by show J5 221 _ = _; rw [q21, upd_eq]) ⟨z, hz, ?_⟩ fun hlt => absurd hlt (by omega)
        · exact LN_app (hln i hi)
        · rw [show (es ++ nw).length - es.length = nw.length by omega, seg_ty2]
          exact hty
  · have n16 : nn n = (16 : Int32) := by rw [hn]; rfl
    rw [o2L f1, if_pos rfl, if_pos n16, o2R f2, gdZ0, bn_rt, o2_rt]
    exact Or.inl ⟨rfl, rfl, f3⟩
end
end TR99
