/-! text: a line of the diary, all of it -/
section TU99
variable {X : CX} {c n np na : Nat} {I J : MI}
def diW (np na : Nat) (kc kr who : Int32) : Prop := (kc = 22 ∧ kr = 0 ∧ ∃ a, a < na ∧ who = nn a) ∨ (kc = 23 ∧ kr = 1 ∧ ∃ p, p < np ∧ who = nn p) ∨ (kc = 24 ∧ kr = 2 ∧ ∃ a, a < na ∧ who = nn a) ∨ (kc = 9 ∧ kr = 3 ∧ ∃ s, s < 10 ∧ who = nn s)
theorem di_kind {D : MI → MI → Prop} (h : LK X D c I J) : F_R_kindOfDeed J = some (if KD X c = 2 ∧ VL X c = 22 then 0 else if KD X c = 2 ∧ VL X c = 23 then 1 else if KD X c = 2 ∧ VL X c = 24 then 2 else if KD X c = 2 ∧ VL X c = 9 then 3 else -1, J) := by
  unfold F_R_kindOfDeed
  rw [bn_of (word_R h 22)]
  by_cases h1 : KD X c = 2 ∧ VL X c = 22
  · rw [if_pos h1, if_pos h1, if_neg one_ne]; rfl
  · rw [if_neg h1, if_neg h1, if_pos rfl, bn_of (word_R h 23)]
    by_cases h2 : KD X c = 2 ∧ VL X c = 23
    · rw [if_pos h2, if_pos h2, if_neg one_ne]; rfl
    · rw [if_neg h2, if_neg h2, if_pos rfl, bn_of (word_R h 24)]
      by_cases h3 : KD X c = 2 ∧ VL X c = 24
      · rw [if_pos h3, if_pos h3, if_neg one_ne]; rfl
      · rw [if_neg h3, if_neg h3, if_pos rfl, bn_of (word_R h 9)]
        by_cases h4 : KD X c = 2 ∧ VL X c = 9
        · rw [if_pos h4, if_pos h4, if_neg one_ne]; rfl
        · rw [if_neg h4, if_neg h4, if_pos rfl]; rfl
theorem di_yes (hX : Cxt X) (h0 : X.2.2.2.1 102 0 = nn 5) (h1 : X.2.2.2.1 102 1 = nn 16) (p1 : X.2.2.2.1 2 7 = nn np) (p2 : X.2.2.2.2 207 6 = nn np) (p3 : np ≤ 6) (q1 : X.2.2.2.1 2 8 = nn na) (q2 : X.2.2.2.2 207 7 = nn na) (q3 : na ≤ 18) (hS : sDi np na X n c I J) (hw : wDi X c) : Ok2 F_Reader_diaryLine (B_R_readDiary_2 (nn n)) I J (bR X (sDi np na X) n c) := by
  have hL : LK X (DDi np na n (fun _ => 0) 0) c I J := hS
  have hk0 : ¬ KD X c = 0 := by rw [hw.1]; decide
  have r1 : I 102 1 = nn 16 := by rw [hL.2.1.2.2.2 102 1 rfl]; exact h1
  have wR := word_R hL 20
  rw [if_pos (show KD X c = 2 ∧ VL X c = 20 from hw)] at wR
  unfold F_Reader_diaryLine B_R_readDiary_2
  rw [o2R wR, if_neg one_ne]
  rcases p_open hX hL 20 102 n hL.2.2.2.2.1 r1 hL.2.2.2.1 hw with ⟨hn, op⟩ | ⟨hn, I1, J1, f1, f2, f3⟩
  · have n16 : ¬ nn n = (16 : Int32) := fun z => by have := (nn_inj (k := 16) (by omega) (by omega)).mp z; omega
    obtain ⟨J1, g1, g2⟩ := p_step hX stab_DDi hL hk0
    have x0 : (80 : Int32) + (5 : Int32) * nn n = nn (80 + (5 * n + 0)) := by
      rw [show (5 : Int32) * nn n = nn (5 * n) from nn_mul 5 n, show (80 : Int32) + nn (5 * n) = nn (80 + 5 * n) from nn_add 80 _]
      rfl
    have x1 : nn (80 + (5 * n + 0)) + (1 : Int32) = nn (80 + (5 * n + 1)) := nn_add _ 1
    have x2 : nn (80 + (5 * n + 0)) + (2 : Int32) = nn (80 + (5 * n + 2)) := nn_add _ 2
    have x3 : nn (80 + (5 * n + 0)) + (3 : Int32) = nn (80 + (5 * n + 3)) := nn_add _ 3
    have x4 : nn (80 + (5 * n + 0)) + (4 : Int32) = nn (80 + (5 * n + 4)) := nn_add _ 4
    rw [o2L op, if_neg one_ne, if_neg n16]
    unfold F_R_readDeed
    rw [x0, x1, x2, x3, x4, bn_bn]
    have eT : F_R_readTold 20 0 999 J = F_R_readNumber 0 999 J1 := by
      unfold F_R_readTold
      rw [bn_of wR, if_neg one_ne, bn_of g1]
      unfold bn
      cases F_R_readNumber 0 999 J1 <;> rfl
    refine o2_eq rfl (bn_cg eT) ?_
    refine o2_bn (p_num hX stab_DDi g2 0 999) fun r s I3 J3 hP => ?_
    rcases hP with ⟨rfl, rfl, hE⟩ | ⟨rfl, k3, es, b1, b2, i11, hL3⟩
    · rw [if_pos rfl]
      exact di_bad hn (show 0 < 5 by decide) rfl (by rw [if_pos rfl]) hE
    have hL4 := di_sr hL3 (by decide) s
    have sm : ¬ s = -1 := by rw [es]; exact num_ne hX k3
    rw [if_neg one_ne, o2L e_rd, i11]
    refine o2_eq rfl (bn_cg (wr_di hn (show 0 < 5 by decide) rfl s _)) ?_
    rw [if_neg sm, bn_bn]
    refine o2_eq (congrFun (toldA_bn ?_) _) rfl ?_
    · rw [if_pos rfl, gdZ0, bn_rt]
    refine o2_bn (p_told hX stab_DDi hL4 21 0 23) fun r t I5 J5 hP => ?_
    rcases hP with ⟨rfl, rfl, hE⟩ | ⟨rfl, k5, et, b3, b4, i5, hL5⟩
    · rw [if_pos rfl]
      exact di_bad hn (show 1 < 5 by decide) rfl (by rw [if_pos rfl]) hE
    have hL6 := di_sr hL5 (by decide) t
    have tm : ¬ t = -1 := by rw [et]; exact num_ne hX k5
    rw [if_neg one_ne, o2L e_rd, i5, o2L e_rd, o2L (kind_A hX hL6)]
    refine o2_eq rfl (bn_cg (wr_di hn (show 1 < 5 by decide) rfl t _)) ?_
    rw [if_neg tm, bn_bn]
    have kR := di_kind hL6
    rw [o2R kR]
    generalize hc4 : c + 1 + 1 + 1 + 1 = c4 at hL6 kR
    by_cases hkn : KD X c4 = 2 ∧ (VL X c4 = 22 ∨ VL X c4 = 23 ∨ VL X c4 = 24 ∨ VL X c4 = 9)
    · -- a kind that there is
      have hk6 : ¬ KD X c4 = 0 := by rw [hkn.1]; decide
      obtain ⟨kc, kr, m, ev, ekr, hcA, hcR, hm, hdw⟩ : ∃ kc kr m, VL X c4 = kc ∧ (if KD X c4 = 2 ∧ VL X c4 = 22 then (0 : Int32) else if KD X c4 = 2 ∧ VL X c4 = 23 then 1 else if KD X c4 = 2 ∧ VL X c4 = 24 then 2 else if KD X c4 = 2 ∧ VL X c4 = 9 then 3 else -1) = kr ∧ (∀ K : MI, K 2 7 = nn np → K 2 8 = nn na → F_Reader_countOf kc K = some (nn m, K)) ∧ (∀ K : MI, K 207 6 = nn np → K 207 7 = nn na → F_R_mostWho kr K = some (nn m - 1, K)) ∧ m ≤ 100 ∧ ∀ who : Int32, (∃ a, a < m ∧ who = nn a) → diW np na kc kr who := by
        rcases hkn with ⟨k2, v | v | v | v⟩
        · refine ⟨22, 0, na, v, if_pos ⟨k2, v⟩, fun K z1 z2 => ?_, fun K z1 z2 => ?_, by omega, fun who hwho => Or.inl ⟨rfl, rfl, hwho⟩⟩
          · unfold F_Reader_countOf
            rw [if_neg (by decide), if_neg (by decide), bn_rd, z2]; rfl
          · unfold F_R_mostWho
            rw [if_neg (by decide), if_neg (by decide), bn_rd, z2]; rfl
        · refine ⟨23, 1, np, v, ?_, fun K z1 z2 => ?_, fun K z1 z2 => ?_, by omega, fun who hwho => Or.inr (Or.inl ⟨rfl, rfl, hwho⟩)⟩
          · rw [v, if_neg (fun z => absurd z.2 (by decide)), if_pos ⟨k2, rfl⟩]
          · unfold F_Reader_countOf
            rw [if_pos rfl, bn_rd, z1]; rfl
          · unfold F_R_mostWho
            rw [if_pos rfl, bn_rd, z1]; rfl
        · refine ⟨24, 2, na, v, ?_, fun K z1 z2 => ?_, fun K z1 z2 => ?_, by omega, fun who hwho => Or.inr (Or.inr (Or.inl ⟨rfl, rfl, hwho⟩))⟩
          · rw [v, if_neg (fun z => absurd z.2 (by decide)), if_neg (fun z => absurd z.2 (by decide)), if_pos ⟨k2, rfl⟩]
          · unfold F_Reader_countOf
            rw [if_neg (by decide), if_neg (by decide), bn_rd, z2]; rfl
          · unfold F_R_mostWho
            rw [if_neg (by decide), if_neg (by decide), bn_rd, z2]; rfl
        · refine ⟨9, 3, 10, v, ?_, fun K z1 z2 => ?_, fun K z1 z2 => ?_, by omega, fun who hwho => Or.inr (Or.inr (Or.inr ⟨rfl, rfl, hwho⟩))⟩
          · rw [v, if_neg (fun z => absurd z.2 (by decide)), if_neg (fun z => absurd z.2 (by decide)), if_neg (fun z => absurd z.2 (by decide)), if_pos ⟨k2, rfl⟩]
          · unfold F_Reader_countOf
            rw [if_neg (by decide), if_pos rfl]; rfl
          · unfold F_R_mostWho
            rw [if_neg (by decide), if_pos rfl]; rfl
      rw [ekr]
      have krm : ¬ kr = -1 := by
        rw [← ekr]
        rcases hkn with ⟨k2, v | v | v | v⟩
        · rw [if_pos ⟨k2, v⟩]; decide
        · rw [v, if_neg (fun z => absurd z.2 (by decide)), if_pos ⟨k2, rfl⟩]; decide
        · rw [v, if_neg (fun z => absurd z.2 (by decide)), if_neg (fun z => absurd z.2 (by decide)), if_pos ⟨k2, rfl⟩]; decide
        · rw [v, if_neg (fun z => absurd z.2 (by decide)), if_neg (fun z => absurd z.2 (by decide)), if_neg (fun z => absurd z.2 (by decide)), if_pos ⟨k2, rfl⟩]; decide
      have eA : (if VL X c4 = (22 : Int32) then
              K_Reader_diaryLine_117 s t (VL X c4)
            else
              (if VL X c4 = (23 : Int32) then
                K_Reader_diaryLine_117 s t (VL X c4)
              else
                (if VL X c4 = (9 : Int32) then
                  K_Reader_diaryLine_117 s t (VL X c4)
                else
                  (if VL X c4 = (24 : Int32) then
                    K_Reader_diaryLine_117 s t (VL X c4)
                  else
                    bn (F_Reader_fail (1 : Int32)) fun v12 =>
                    bn (gdZ v12) fun _ => rt v12)))) = K_Reader_diaryLine_117 s t kc := by
        rw [ev]
        have hv := hkn.2
        rw [ev] at hv
        rcases hv with v | v | v | v
        · rw [if_pos v]
        · rw [v, if_neg (by decide), if_pos rfl]
        · rw [v, if_neg (by decide), if_neg (by decide), if_neg (by decide), if_pos rfl]
        · rw [v, if_neg (by decide), if_neg (by decide), if_pos rfl]
      obtain ⟨J7, g3, g4⟩ := p_step hX stab_DDi hL6 hk6
      have hL8 := di_sr g4 (by decide) kr
      rw [if_pos hkn.1, o2L e_rd, o2L (val_A hX hL6), eA, k117, o2L (step_A hX hL6 hk6), if_neg krm, bn_bn, o2R g3]
      have i82 : inR (nn (80 + (5 * n + 2))) 160 = true := inR_nn (by omega) (by omega)
      have c1 := hcA (sI I5 c4) (by rw [hL8.2.1.2.2.2 2 7 rfl]; exact p1) (by rw [hL8.2.1.2.2.2 2 8 rfl]; exact q1)
      have c2 := hcR (bup J7 227 (upd (J7 227) (80 + (5 * n + 2)) kr)) (by rw [hL8.2.2.1.2.2.2.2 207 6 rfl]; exact p2) (by rw [hL8.2.2.1.2.2.2.2 207 7 rfl]; exact q2)
      rw [bn_bn, o2R (e_sr i82), nn_nat (by omega), o2L c1, bn_bn, o2R c2, bn_bn]
      refine o2_bn (p_num hX stab_DDi hL8 0 (nn m - 1)) fun r who I9 J9 hP => ?_
      rcases hP with ⟨rfl, rfl, hE⟩ | ⟨rfl, k9, eh, b5, b6, i9, hL9⟩
      · rw [if_pos rfl]
        exact di_bad hn (show 3 < 5 by decide) rfl (by rw [if_pos rfl]) hE
      have whm : ¬ who = -1 := by rw [eh]; exact num_ne hX k9
      have hL10 := di_sr (lk_11 stab_DDi hL9 0) (by decide) who
      rw [if_neg one_ne, o2L e_rd, i9, o2L e_wr]
      refine o2_eq rfl (bn_cg (wr_di hn (show 3 < 5 by decide) rfl who _)) ?_
      rw [if_neg whm]
      refine di_more hX h0 h1 (by omega) hL10 hn ?_ ?_ ?_ (upd_eq _ _ _) (by rw [bup_eq, upd_eq]) (hdw who (lt_cnt hm b5 b6))
      · rw [upd_ne _ _ (by decide), upd_ne _ _ (by decide), upd_ne _ _ (by decide), upd_eq]
      · rw [upd_ne _ _ (by decide), upd_ne _ _ (by decide), upd_eq]
      · rw [upd_ne _ _ (by decide), upd_eq]
    · have nk : ∀ x : Int32, (x = 22 ∨ x = 23 ∨ x = 24 ∨ x = 9) → ¬ (KD X c4 = 2 ∧ VL X c4 = x) := fun x hx z => hkn ⟨z.1, by rw [z.2]; exact hx⟩
      obtain ⟨I1, J1', f1, f2, f3⟩ := p_fail hX hL6 1
      rw [if_neg (nk 22 (Or.inl rfl)), if_neg (nk 23 (Or.inr (Or.inl rfl))), if_neg (nk 24 (Or.inr (Or.inr (Or.inl rfl)))), if_neg (nk 9 (Or.inr (Or.inr (Or.inr rfl)))), if_pos (show (-1 : Int32) = -1 from rfl)]
      have eR : (bn (bn (F_R_errs 1) fun v12 => rt v12) fun v2 => if v2 = -1 then rt (Sum.inr (Sum.inr (-1))) else rt (Sum.inl (nn n + 1))) (bup J5 227 (upd (J5 227) (80 + (5 * n + 1)) t)) = some ((Sum.inr (Sum.inr (-1)) : Int32 ⊕ (Int32 ⊕ Int32)), J1') := by
        rw [bn_bn, bn_of f2]; rfl
      by_cases h2 : KD X c4 = 2
      · rw [if_pos h2, o2L e_rd, o2L (val_A hX hL6), if_neg (fun z => nk 22 (Or.inl rfl) ⟨h2, z⟩), if_neg (fun z => nk 23 (Or.inr (Or.inl rfl)) ⟨h2, z⟩), if_neg (fun z => nk 9 (Or.inr (Or.inr (Or.inr rfl))) ⟨h2, z⟩), if_neg (fun z => nk 24 (Or.inr (Or.inr (Or.inl rfl))) ⟨h2, z⟩), o2L f1]
        exact ⟨0, I1, _, J1', rfl, eR, Or.inl ⟨rfl, rfl, f3⟩⟩
      · rw [if_neg h2, if_neg (show ¬ (-1 : Int32) = 22 by decide), if_neg (show ¬ (-1 : Int32) = 23 by decide), if_neg (show ¬ (-1 : Int32) = 9 by decide), if_neg (show ¬ (-1 : Int32) = 24 by decide), o2L f1]
        exact ⟨0, I1, _, J1', rfl, eR, Or.inl ⟨rfl, rfl, f3⟩⟩
  · have n16 : nn n = (16 : Int32) := by rw [hn]; rfl
    rw [o2L f1, if_pos rfl, if_pos n16, o2R f2, gdZ0, bn_rt, o2_rt]
    exact Or.inl ⟨rfl, rfl, f3⟩
end TU99
