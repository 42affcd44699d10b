/-! text: a line of shares -/
section TS99
def DSh (n : Nat) (w : Nat → Int32) (k : Nat) (I J : MI) : Prop := n ≤ 16 ∧ I 100 3 = nn n ∧ (∀ i, i < n → (∀ q, q < 4 → J 226 (64 + (4 * i + q)) = I 101 (4 * i + q)) ∧ ∃ s, s < 10 ∧ I 101 (4 * i + 3) = nn s) ∧ ∀ j, j < k → J 226 (64 + (4 * n + j)) = w j
theorem stab_DSh {n : Nat} {w : Nat → Int32} {k : Nat} : stab (DSh n w k) := by
  intro I J I1 J1 h1 h2 h3 h
  unfold DSh at h ⊢
  rw [h1 100 (by omega) (by omega), h1 101 (by omega) (by omega), h2 226 (by omega) (by omega)]
  exact h
theorem num_ne {X : CX} (hX : Cxt X) {c : Nat} (h : KD X c = 3) : ¬ VL X c = -1 := by
  obtain ⟨v, hv, e⟩ := vl_num hX h
  rw [e]
  intro z
  have q := congrArg Int32.toInt z
  rw [nn_toInt (by omega)] at q
  have : ((-1 : Int32)).toInt = -1 := by decide
  omega
section
variable {X : CX} {c n : Nat} {I J : MI} {w : Nat → Int32} {k : Nat}
theorem sh_sr (h : LK X (DSh n w k) c I J) (hk : k < 4) {s : Int32} (hs : s = w k) : LK X (DSh n w (k + 1)) c I (bup J 226 (upd (J 226) (64 + (4 * n + k)) s)) := by
  refine lk_J h (by simp [kpJ]) (by decide) ?_
  obtain ⟨a1, a2, a3, a4⟩ := h.2.2.2
  refine ⟨a1, a2, fun i hi => ⟨fun q hq => ?_, (a3 i hi).2⟩, fun j hj => ?_⟩
  · rw [bup_eq, upd_ne _ _ (by omega)]
    exact (a3 i hi).1 q hq
  · rw [bup_eq]
    by_cases e : j = k
    · rw [e, upd_eq, hs]
    · rw [upd_ne _ _ (by omega)]
      exact a4 j (by omega)
theorem ix_sh (n k : Nat) : (64 : Int32) + (4 : Int32) * nn n + nn k = nn (64 + (4 * n + k)) := by
  rw [show (4 : Int32) * nn n = nn (4 * n) from nn_mul 4 n, show (64 : Int32) + nn (4 * n) = nn (64 + 4 * n) from nn_add 64 _, nn_add]
  rw [show 64 + 4 * n + k = 64 + (4 * n + k) by omega]
/-- the reference writes what it read, and looks whether it was read -/
theorem wr_sh (hn : n < 16) (hk : k < 4) {x : Int32} (hx : x = nn (64 + (4 * n + k))) (s : Int32) (f : Int32 → M Int32) : bn (sr 128 226 x s) (fun _ => bn (ld 128 226 x) f) J = f s (bup J 226 (upd (J 226) (64 + (4 * n + k)) s)) := by
  subst hx
  have i1 : inR (nn (64 + (4 * n + k))) 128 = true := inR_nn (by omega) (by omega)
  rw [bn_sr _ _ i1, bn_ld _ _ i1, nn_nat (by omega), bup_eq, upd_eq]
def sSh (X : CX) (n c : Nat) (I J : MI) : Prop := LK X (DSh n (fun _ => 0) 0) c I J
def wSh (X : CX) (c : Nat) : Prop := KD X c = 2 ∧ VL X c = 16
theorem sh_no (hX : Cxt X) {D : MI → MI → Prop} (h : LK X D c I J) (hw : ¬ wSh X c) (y : Int32) : B_R_readShares_2 y J = some (.inr (.inl y), J) ∧ ∃ I1 J1, F_Reader_shareLine I = some (0, I1) ∧ F_R_errs 1 J = some (-1, J1) ∧ ER X I1 J1 := by
  refine ⟨?_, ?_⟩
  · unfold B_R_readShares_2
    have e := word_R h 16
    rw [if_neg (show ¬ (KD X c = 2 ∧ VL X c = 16) from hw)] at e
    rw [bn_of e, if_pos rfl]
    rfl
  · obtain ⟨I1, J1, f1, f2, f3⟩ := open_no hX h 16 100 hw
    refine ⟨I1, J1, ?_, f2, f3⟩
    unfold F_Reader_shareLine
    rw [bn_of f1, if_pos rfl]
    rfl
theorem sh_yes (hX : Cxt X) (h0 : X.2.2.2.1 100 0 = nn 4) (h1 : X.2.2.2.1 100 1 = nn 16) (hna : X.2.2.2.2 207 7 = X.2.2.2.1 2 8) (hS : sSh X n c I J) (hw : wSh X c) : Ok2 F_Reader_shareLine (B_R_readShares_2 (nn n)) I J (bR X (sSh X) n c) := by
  have hw0 : ∃ w : Nat → Int32, w = fun j => VL X (c + 2 * j + 1) := ⟨_, rfl⟩
  obtain ⟨w, ew⟩ := hw0
  have hL : LK X (DSh n w 0) c I J := lk_D hS ⟨hS.2.2.2.1, hS.2.2.2.2.1, hS.2.2.2.2.2.1, fun j hj => absurd hj (by omega)⟩
  have hk0 : ¬ KD X c = 0 := by rw [hw.1]; decide
  have r1 : I 100 1 = nn 16 := by rw [hL.2.1.2.2.2 100 1 rfl]; exact h1
  have wR := word_R hL 16
  rw [if_pos (show KD X c = 2 ∧ VL X c = 16 from hw)] at wR
  unfold F_Reader_shareLine B_R_readShares_2
  rw [o2R wR, if_neg one_ne]
  rcases p_open hX hL 16 100 n hL.2.2.2.2.1 r1 hL.2.2.2.1 hw with ⟨hn, op⟩ | ⟨hn, I1, J1, f1, f2, f3⟩
  · have n16 : ¬ nn n = (16 : Int32) := fun z => by have := (nn_inj (k := 16) (by omega) (by omega)).mp z; omega
    obtain ⟨J1, g1, g2⟩ := p_step hX stab_DSh hL hk0
    have x0 : (64 : Int32) + (4 : Int32) * nn n = nn (64 + (4 * n + 0)) := by rw [← ix_sh n 0]; exact (Int32.add_zero _).symm
    have x1 : nn (64 + (4 * n + 0)) + (1 : Int32) = nn (64 + (4 * n + 1)) := nn_add _ 1
    have x2 : nn (64 + (4 * n + 0)) + (2 : Int32) = nn (64 + (4 * n + 2)) := nn_add _ 2
    have x3 : nn (64 + (4 * n + 0)) + (3 : Int32) = nn (64 + (4 * n + 3)) := nn_add _ 3
    have ena : sI I c 2 8 = J 207 7 := by
      rw [g2.2.1.2.2.2 2 8 rfl, ← hna, hL.2.2.1.2.2.2.2 207 7 rfl]
    rw [o2L op, if_neg one_ne, if_neg n16]
    unfold F_R_readShare
    rw [x0, x1, x2, x3, bn_bn, o2L e_rd, ena, o2R e_rd, bn_bn]
    have eT : F_R_readTold 16 0 (J 207 7 - 1) J = F_R_readNumber 0 (J 207 7 - 1) J1 := by
      unfold F_R_readTold
      rw [bn_of wR, if_neg one_ne, bn_of g1]
      unfold bn
      cases F_R_readNumber 0 (J 207 7 - 1) J1 <;> rfl
    refine o2_eq rfl (bn_cg eT) ?_
    -- a number that could not be read
    have bad : ∀ (k : Nat) (x : Int32) (f : Int32 → M Int32) (I3 J3 : MI), k < 4 → x = nn (64 + (4 * n + k)) → f (-1) = rt (-1) → ER X I3 J3 → Ok2 (bn (gdZ (0 : Int32)) fun _ => rt (0 : Int32)) (bn (bn (sr 128 226 x (-1)) fun _ => bn (ld 128 226 x) f) fun v2 => if v2 = -1 then rt (.inr (.inr (-1))) else rt (.inl (nn n + 1))) I3 J3 (bR X (sSh X) n c) := by
      intro k x f I3 J3 hk hx hf hE
      refine o2_eq rfl (bn_cg (wr_sh hn hk hx (-1) f)) ?_
      rw [hf, bn_rt, if_pos rfl, gdZ0, bn_rt, o2_rt]
      exact Or.inl ⟨rfl, rfl, er_set hE (by simp [kpJ]) (fun z => absurd z (by decide))⟩
    refine o2_bn (p_num hX stab_DSh g2 0 (J 207 7 - 1)) fun r s I3 J3 hP => ?_
    rcases hP with ⟨rfl, rfl, hE⟩ | ⟨rfl, k3, es, b1, b2, i11, hL3⟩
    · rw [if_pos rfl]
      exact bad 0 _ _ I3 J3 (by decide) rfl (by rw [if_pos rfl]) hE
    have s0 : s = w 0 := by rw [ew]; exact es
    have hL4 := sh_sr hL3 (by decide) s0
    have sm : ¬ s = -1 := by rw [es]; exact num_ne hX k3
    rw [if_neg one_ne, o2L e_rd, i11]
    refine o2_eq rfl (bn_cg (wr_sh hn (show 0 < 4 by decide) rfl s _)) ?_
    rw [if_neg sm, bn_bn]
    refine o2_eq (congrFun (toldA_bn ?_) _) rfl ?_
    · rw [if_pos rfl, gdZ0, bn_rt]
    refine o2_bn (p_told hX stab_DSh hL4 17 0 23) fun r t I5 J5 hP => ?_
    rcases hP with ⟨rfl, rfl, hE⟩ | ⟨rfl, k5, et, b3, b4, i5, hL5⟩
    · rw [if_pos rfl]
      exact bad 1 _ _ I5 J5 (by decide) rfl (by rw [if_pos rfl]) hE
    have t1 : t = w 1 := by rw [ew]; exact et
    have hL6 := sh_sr hL5 (by decide) t1
    have tm : ¬ t = -1 := by rw [et]; exact num_ne hX k5
    rw [if_neg one_ne, o2L e_rd, i5]
    refine o2_eq rfl (bn_cg (wr_sh hn (show 1 < 4 by decide) rfl t _)) ?_
    have i65 : inR (nn (64 + (4 * n + 1))) 128 = true := inR_nn (by omega) (by omega)
    rw [if_neg tm, bn_bn, o2R (e_ld i65), nn_nat (by omega), bup_eq, upd_eq, bn_bn]
    refine o2_eq (congrFun (toldA_bn ?_) _) rfl ?_
    · rw [if_pos rfl, gdZ0, bn_rt]
    refine o2_bn (p_told hX stab_DSh hL6 18 t 23) fun r u I7 J7 hP => ?_
    rcases hP with ⟨rfl, rfl, hE⟩ | ⟨rfl, k7, eu, b5, b6, i7, hL7⟩
    · rw [if_pos rfl]
      exact bad 2 _ _ I7 J7 (by decide) rfl (by rw [if_pos rfl]) hE
    have u2 : u = w 2 := by rw [ew]; exact eu
    have hL8 := sh_sr hL7 (by decide) u2
    have um : ¬ u = -1 := by rw [eu]; exact num_ne hX k7
    rw [if_neg one_ne, o2L e_rd, i7]
    refine o2_eq rfl (bn_cg (wr_sh hn (show 2 < 4 by decide) rfl u _)) ?_
    rw [if_neg um, bn_bn]
    refine o2_eq (congrFun (toldA_bn ?_) _) rfl ?_
    · rw [if_pos rfl, gdZ0, bn_rt]
    refine o2_bn (p_told hX stab_DSh hL8 19 0 9) fun r z I9 J9 hP => ?_
    rcases hP with ⟨rfl, rfl, hE⟩ | ⟨rfl, k9, ez, b7, b8, i9, hL9⟩
    · rw [if_pos rfl]
      exact bad 3 _ _ I9 J9 (by decide) rfl (by rw [if_pos rfl]) hE
    have z3 : z = w 3 := by rw [ew]; exact ez
    have hL10 := sh_sr hL9 (by decide) z3
    have zm : ¬ z = -1 := by rw [ez]; exact num_ne hX k9
    rw [if_neg one_ne, o2L e_rd, i9]
    refine o2_eq rfl (bn_cg (wr_sh hn (show 3 < 4 by decide) rfl z _)) ?_
    rw [if_neg zm, bn_bn]
    refine o2_bn (p_mark hX stab_DSh hL10 59 rfl) fun r m I11 J11 hP => ?_
    rcases hP with ⟨rfl, rfl, hE⟩ | ⟨rfl, rfl, hL11⟩
    · rw [if_pos rfl, bn_rt, if_pos rfl, gdZ0, bn_rt, o2_rt]
      exact Or.inl ⟨rfl, rfl, hE⟩
    have w0 : I11 100 0 = nn 4 := by rw [hL11.2.1.2.2.2 100 0 rfl]; exact h0
    have w1 : I11 100 1 = nn 16 := by rw [hL11.2.1.2.2.2 100 1 rfl]; exact h1
    obtain ⟨a1, a2, a3, a4⟩ := hL11.2.2.2
    have put := put_ok (t := 100) (w := 4) (n := n) (r := 16) (a := s) (b := t) (c := u) (d := z) (e := 0) w0 a2 w1 hn rfl (by decide) (by decide) (by decide)
    rw [if_neg one_ne, o2L put, bn_rt, if_neg zm_ne, gdZ1, bn_rt, nn_s, o2_rt]
    refine Or.inr ⟨rfl, rfl, _, ?_, hL11.1, ⟨?_, ?_, ?_, ?_⟩, hL11.2.2.1, ⟨by omega, by rw [bup_eq, upd_eq], fun i hi => ?_, fun j hj => absurd hj (by omega)⟩⟩
    · show c < _; omega
    · rw [bup_ne _ _ (by decide), bup_ne _ _ (by decide)]; exact hL11.2.1.1
    · rw [bup_ne _ _ (by decide), bup_ne _ _ (by decide)]; exact hL11.2.1.2.1
    · rw [bup_ne _ _ (by decide), bup_ne _ _ (by decide)]; exact hL11.2.1.2.2.1
    · have f1 := fi_row (a := 101) (g := lnF (I11 101) 4 n s t u z 0) hL11.2.1.2.2.2 (fun k => by simp [kpI])
      have f2 := fi_set (a := 100) (k := 3) (x := nn (n + 1)) f1 rfl
      rw [bup_ne (b := 100) _ _ (by decide)] at f2
      exact f2
    · have z101 : bup (bup I11 (100 + 1) (lnF (I11 (100 + 1)) 4 n s t u z 0)) 100 (upd (I11 100) 3 (nn (n + 1))) 101 = upd (upd (upd (upd (I11 101) (4 * n) s) (4 * n + 1) t) (4 * n + 2) u) (4 * n + 3) z := by
        rw [bup_ne _ _ (by decide), bup_eq]
        unfold lnF; simp [Nat.mul_comm]
      rw [z101]
      by_cases e : i = n
      · subst e
        refine ⟨fun q hq => ?_, ?_⟩
        · have hq4 : q = 0 ∨ q = 1 ∨ q = 2 ∨ q = 3 := by omega
          rw [a4 q hq]
          rcases hq4 with e | e | e | e
          · subst e; rw [upd_ne _ _ (by omega), upd_ne _ _ (by omega), upd_ne _ _ (by omega)]; show w 0 = upd (I11 101) (4 * i) s (4 * i); rw [upd_eq, s0]
          · subst e; rw [upd_ne _ _ (by omega), upd_ne _ _ (by omega), upd_eq, t1]
          · subst e; rw [upd_ne _ _ (by omega), upd_eq, u2]
          · subst e; rw [upd_eq, z3]
        · rw [upd_eq]
          obtain ⟨m, m1, m2⟩ := of_le (n := 9) (by decide) b7 b8
          exact ⟨m, by omega, m2⟩
      · refine ⟨fun q hq => ?_, ?_⟩
        · rw [upd_ne _ _ (by omega), upd_ne _ _ (by omega), upd_ne _ _ (by omega), upd_ne _ _ (by omega)]
          exact (a3 i (by omega)).1 q hq
        · rw [upd_ne _ _ (by omega), upd_ne _ _ (by omega), upd_ne _ _ (by omega), upd_ne _ _ (by omega)]
          exact (a3 i (by omega)).2
  · have n16 : nn n = (16 : Int32) := by rw [hn]; rfl
    rw [o2L f1, if_pos rfl, if_pos n16, o2R f2, gdZ0, bn_rt, o2_rt]
    exact Or.inl ⟨rfl, rfl, f3⟩
end
end TS99
