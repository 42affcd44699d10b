/-! text: a line of streets -/
section TV99
def DWa (n : Nat) (f g : Nat → Nat) (m : Nat) (I J : MI) : Prop := n ≤ 16 ∧ I 104 3 = nn n ∧ (∀ i, i < n → f i < 10 ∧ g i < 10 ∧ f i ≠ g i ∧ I 105 (2 * i) = nn (f i) ∧ I 105 (2 * i + 1) = nn (g i)) ∧ mskP m f g (fun _ => True) fun s => J 228 (10 + s)
theorem stab_DWa {n m : Nat} {f g : Nat → Nat} : stab (DWa n f g m) := by
  intro I J I1 J1 h1 h2 h3 h
  unfold DWa at h ⊢
  rw [h1 104 (by omega) (by omega), h1 105 (by omega) (by omega), h2 228 (by omega) (by omega)]
  exact h
section
variable {X : CX} {c n : Nat} {I J : MI}
def sWa (X : CX) (n c : Nat) (I J : MI) : Prop := ∃ f g, LK X (DWa n f g n) c I J
def wWa (X : CX) (c : Nat) : Prop := KD X c = 2 ∧ VL X c = 13
theorem wa_no (hX : Cxt X) {D : MI → MI → Prop} (h : LK X D c I J) (hw : ¬ wWa X c) (y : Int32) : B_R_readStreets_26 y J = some (.inr (.inl y), J) ∧ ∃ I1 J1, F_Reader_wayLine I = some (0, I1) ∧ F_R_errs 1 J = some (-1, J1) ∧ ER X I1 J1 := by
  refine ⟨?_, ?_⟩
  · unfold B_R_readStreets_26
    have e := word_R h 13
    rw [if_neg (show ¬ (KD X c = 2 ∧ VL X c = 13) from hw)] at e
    rw [bn_of e, if_pos rfl]
    rfl
  · obtain ⟨I1, J1, f1, f2, f3⟩ := open_no hX h 13 104 hw
    refine ⟨I1, J1, ?_, f2, f3⟩
    unfold F_Reader_wayLine
    rw [bn_of f1, if_pos rfl]
    rfl
theorem wa_yes (hX : Cxt X) (h0 : X.2.2.2.1 104 0 = nn 2) (h1 : X.2.2.2.1 104 1 = nn 16) (hS : sWa X n c I J) (hw : wWa X c) : Ok2 F_Reader_wayLine (B_R_readStreets_26 (nn n)) I J (bR X (sWa X) n c) := by
  obtain ⟨f, g, hL⟩ := hS
  have hk0 : ¬ KD X c = 0 := by rw [hw.1]; decide
  have r1 : I 104 1 = nn 16 := by rw [hL.2.1.2.2.2 104 1 rfl]; exact h1
  have wR := word_R hL 13
  rw [if_pos (show KD X c = 2 ∧ VL X c = 13 from hw)] at wR
  unfold F_Reader_wayLine B_R_readStreets_26
  rw [o2R wR, if_neg one_ne]
  rcases p_open hX hL 13 104 n hL.2.2.2.2.1 r1 hL.2.2.2.1 hw with ⟨hn, op⟩ | ⟨hn, I1, J1, f1, f2, f3⟩
  · have n16 : ¬ nn n = (16 : Int32) := fun z => by have := (nn_inj (k := 16) (by omega) (by omega)).mp z; omega
    obtain ⟨J1, g1, g2⟩ := p_step hX stab_DWa hL hk0
    rw [o2L op, if_neg one_ne, if_neg n16]
    unfold F_R_readStreet
    rw [bn_bn]
    have eT : F_R_readTold 13 0 9 J = F_R_readNumber 0 9 J1 := by
      unfold F_R_readTold
      rw [bn_of wR, if_neg one_ne, bn_of g1]
      unfold bn
      cases F_R_readNumber 0 9 J1 <;> rfl
    refine o2_eq rfl (bn_cg eT) ?_
    refine o2_bn (p_num hX stab_DWa g2 0 9) fun r s I3 J3 hP => ?_
    rcases hP with ⟨rfl, rfl, hE⟩ | ⟨rfl, k3, es, b1, b2, i11, hL3⟩
    · rw [if_pos rfl, if_pos rfl]
      exact ⟨0, _, _, _, rfl, rfl, Or.inl ⟨rfl, rfl, hE⟩⟩
    have sm : ¬ s = -1 := by rw [es]; exact num_ne hX k3
    obtain ⟨a, a9, ea⟩ := of_le (n := 9) (by decide) b1 b2
    rw [if_neg one_ne, o2L e_rd, i11, if_neg sm]
    generalize hc2 : c + 1 + 1 = c2 at hL3
    -- the word between
    by_cases hb : KD X c2 = 2 ∧ VL X c2 = 25
    · have hkb : ¬ KD X c2 = 0 := by rw [hb.1]; decide
      obtain ⟨J4, g3, g4⟩ := p_step hX stab_DWa hL3 hkb
      have wB := word_R hL3 25
      rw [if_pos hb] at wB
      rw [o2L (key_yes hX hL3 hb), if_neg one_ne, bn_bn, o2R wB, if_neg one_ne, bn_bn, o2R g3, bn_bn, o2L e_rd, o2L (kind_A hX g4), o2R e_rd, kind_R g4]
      -- both go on with the second street
      have rest : (KD X (c2 + 1) = 3 → ¬ VL X (c2 + 1) = s) → Ok2 (K_Reader_wayLine_76 s) (bn (K_R_readStreet_58 s) fun v2 => if v2 = -1 then rt (Sum.inr (Sum.inr (-1))) else rt (Sum.inl (nn n + 1))) (sI I3 c2) J4 (bR X (sWa X) n c) := by
        intro hne
        unfold K_Reader_wayLine_76 K_R_readStreet_58
        rw [bn_bn]
        refine o2_bn (p_num hX stab_DWa g4 0 9) fun r t I5 J5 hP => ?_
        rcases hP with ⟨rfl, rfl, hE⟩ | ⟨rfl, k5, et, b3, b4, i5, hL5⟩
        · rw [if_pos rfl, if_pos rfl]
          exact ⟨0, _, _, _, rfl, rfl, Or.inl ⟨rfl, rfl, hE⟩⟩
        have tm : ¬ t = -1 := by rw [et]; exact num_ne hX k5
        have hst : ¬ t = s := by rw [et]; exact hne k5
        obtain ⟨b, b9, eb⟩ := of_le (n := 9) (by decide) b3 b4
        have hab : a ≠ b := fun z => hst (by rw [ea, eb, z])
        have xa : (10 : Int32) + s = nn (10 + a) := by rw [ea]; exact nn_add 10 a
        have xb : (10 : Int32) + t = nn (10 + b) := by rw [eb]; exact nn_add 10 b
        have ia : inR (nn (10 + a)) 20 = true := inR_nn (by omega) (by omega)
        have ib : inR (nn (10 + b)) 20 = true := inR_nn (by omega) (by omega)
        have ta : (nn (10 + a)).toNatClampNeg = 10 + a := nn_nat (by omega)
        have tb : (nn (10 + b)).toNatClampNeg = 10 + b := nn_nat (by omega)
        rw [if_neg one_ne, o2L e_rd, i5, if_neg tm, xa, xb, bn_bn, o2R (e_ld ia), ta, bn_bn, o2R (e_sr ia), ta, bn_bn, o2R (e_ld ib), tb, bn_bn, o2R (e_sr ib), tb]
        obtain ⟨K1, eK1⟩ : ∃ K1, K1 = bup J5 228 (upd (J5 228) (10 + a) (J5 228 (10 + a) ||| (1 : Int32) <<< (t &&& 31))) := ⟨_, rfl⟩
        rw [← eK1]
        obtain ⟨K2, eK2⟩ : ∃ K2, K2 = bup K1 228 (upd (K1 228) (10 + b) (K1 228 (10 + b) ||| (1 : Int32) <<< (s &&& 31))) := ⟨_, rfl⟩
        rw [← eK2]
        obtain ⟨a1, a2, a3, a4⟩ := hL5.2.2.2
        have hL6 : LK X (fun _ _ => True) (c2 + 1 + 1) I5 K1 := by
          rw [eK1]; exact lk_J hL5 (by simp [kpJ]) (by decide) trivial
        have hL7 : LK X (DWa n (fun i => if i = n then a else f i) (fun i => if i = n then b else g i) (n + 1)) (c2 + 1 + 1) I5 K2 := by
          rw [eK2]
          refine lk_J hL6 (by simp [kpJ]) (by decide) ⟨a1, a2, fun i hi => ?_, ?_⟩
          · have e : ¬ i = n := by omega
            dsimp only
            rw [if_neg e, if_neg e]
            exact a3 i hi
          · have q := msk_put (a := a) (b := b) (ok2 := fun _ => True) a4 (by omega) (by omega) hab (fun _ _ => Iff.rfl) trivial
            intro z hz
            obtain ⟨m, m1, m2, m3⟩ := q z hz
            refine ⟨m, m1, ?_, m3⟩
            rw [← m2, bup_eq, eK1, bup_eq]
            dsimp only
            by_cases zb : z = b
            · rw [zb, upd_eq, upd_eq, upd_ne _ _ (by omega), ea]
            · rw [upd_ne _ _ (by omega), upd_ne _ _ zb]
              by_cases za : z = a
              · rw [za, upd_eq, upd_eq, eb]
              · rw [upd_ne _ _ (by omega), upd_ne _ _ za]
        rw [bn_bn]
        refine o2_bn (p_mark hX stab_DWa hL7 59 rfl) fun r m I11 J11 hP => ?_
        rcases hP with ⟨rfl, rfl, hE⟩ | ⟨rfl, rfl, hL11⟩
        · rw [if_pos rfl, bn_rt, gdZ0, bn_rt]
          exact ⟨0, _, _, _, rfl, rfl, Or.inl ⟨rfl, rfl, hE⟩⟩
        have w0 : I11 104 0 = nn 2 := by rw [hL11.2.1.2.2.2 104 0 rfl]; exact h0
        have w1 : I11 104 1 = nn 16 := by rw [hL11.2.1.2.2.2 104 1 rfl]; exact h1
        obtain ⟨d1, d2, d3, d4⟩ := hL11.2.2.2
        have put := put_ok (t := 104) (w := 2) (n := n) (r := 16) (a := s) (b := t) (c := 0) (d := 0) (e := 0) w0 d2 w1 hn rfl (by decide) (by decide) (by decide)
        rw [← put3] at put
        rw [if_neg one_ne, o2L put, bn_rt, if_neg zm_ne, gdZ1, bn_rt, nn_s, o2_rt]
        refine Or.inr ⟨rfl, rfl, c2 + 1 + 1 + 1, by omega, _, _, hL11.1, ⟨?_, ?_, ?_, ?_⟩, hL11.2.2.1, ⟨by omega, by rw [bup_eq, upd_eq], fun i hi => ?_, d4⟩⟩
        · rw [bup_ne _ _ (by decide), bup_ne _ _ (by decide)]; exact hL11.2.1.1
        · rw [bup_ne _ _ (by decide), bup_ne _ _ (by decide)]; exact hL11.2.1.2.1
        · rw [bup_ne _ _ (by decide), bup_ne _ _ (by decide)]; exact hL11.2.1.2.2.1
        · have f1 := fi_row (a := 105) (g := lnF (I11 105) 2 n s t 0 0 0) hL11.2.1.2.2.2 (fun k => by simp [kpI])
          have f2 := fi_set (a := 104) (k := 3) (x := nn (n + 1)) f1 rfl
          rw [bup_ne (b := 104) _ _ (by decide)] at f2
          exact f2
        · have z105 : bup (bup I11 (104 + 1) (lnF (I11 (104 + 1)) 2 n s t 0 0 0)) 104 (upd (I11 104) 3 (nn (n + 1))) 105 = upd (upd (I11 105) (2 * n) s) (2 * n + 1) t := by
            rw [bup_ne _ _ (by decide), bup_eq]
            exact lnF2
          rw [z105]
          by_cases e : i = n
          · subst e
            rw [if_pos rfl, if_pos rfl]
            exact ⟨by omega, by omega, hab, by rw [upd_ne _ _ (by omega), upd_eq, ea], by rw [upd_eq, eb]⟩
          · rw [upd_ne _ _ (by omega), upd_ne _ _ (by omega), upd_ne _ _ (by omega), upd_ne _ _ (by omega)]
            exact d3 i (by omega)
      by_cases h3 : KD X (c2 + 1) = 3
      · rw [if_pos h3, if_pos (kR_3.mpr h3), o2L e_rd, o2L (val_A hX g4), bn_bn, o2R e_rd, val_R g4 (Or.inr (Or.inl h3))]
        by_cases hv : VL X (c2 + 1) = s
        · obtain ⟨I5, J5, f1, f2, f3⟩ := p_fail hX g4 2
          rw [if_pos hv, if_pos hv, o2L f1]
          refine ⟨0, I5, _, J5, rfl, ?_, Or.inl ⟨rfl, rfl, f3⟩⟩
          rw [bn_bn, bn_of f2]; rfl
        · rw [if_neg hv, if_neg hv]
          exact rest fun _ => hv
      · rw [if_neg h3, if_neg fun z => h3 (kR_3.mp z)]
        exact rest fun z => absurd z h3
    · obtain ⟨I5, J5, f1, f2, f3⟩ := p_fail hX hL3 1
      have e : F_Reader_stepKeyword 25 I3 = some (0, I5) := by
        unfold F_Reader_stepKeyword
        rw [bn_of (wrd_A hX hL3 25), if_neg hb, if_pos rfl, bn_of f1]
        rfl
      have wB := word_R hL3 25
      rw [if_neg hb] at wB
      rw [o2L e, if_pos rfl, bn_bn, o2R wB, if_pos rfl]
      refine ⟨0, I5, _, J5, rfl, ?_, Or.inl ⟨rfl, rfl, f3⟩⟩
      rw [bn_bn, bn_of f2]; rfl
  · have n16 : nn n = (16 : Int32) := by rw [hn]; rfl
    rw [o2L f1, if_pos rfl, if_pos n16, o2R f2, gdZ0, bn_rt, o2_rt]
    exact Or.inl ⟨rfl, rfl, f3⟩
end
end TV99
