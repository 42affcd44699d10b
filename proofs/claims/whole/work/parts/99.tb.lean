/-! text: numbers, words and signs side by side -/
section TK99
variable {X : CX} {D : MI → MI → Prop} {c : Nat} {I J : MI}
def eR (X : CX) (r s : Int32) (I J : MI) : Prop := r = 0 ∧ s = -1 ∧ ER X I J
theorem lk_11 (hD : stab D) (h : LK X D c I J) (x : Int32) : LK X D c (bup I 93 (upd (I 93) 11 x)) J := by
  obtain ⟨h1, ⟨a1, a2, a3, a4⟩, hr, h4⟩ := h
  refine ⟨h1, ⟨?_, ?_, ?_, fi_set a4 rfl⟩, hr, hD I J _ _ (fun a g1 g2 => bup_ne _ _ (by omega)) (fun _ _ _ => rfl) (fun _ _ => rfl) h4⟩
  · rw [bup_eq, upd_ne _ _ (by decide)]; exact a1
  · rw [bup_eq, upd_ne _ _ (by decide)]; exact a2
  · rw [bup_eq, upd_ne _ _ (by decide)]; exact a3
theorem kind_R (h : LK X D c I J) : J 207 17 = kR (KD X c) (VL X c) := h.2.2.1.2.2.1
theorem val_R (h : LK X D c I J) (hk : KD X c = 2 ∨ KD X c = 3 ∨ KD X c = 4) : J 207 18 = VL X c := h.2.2.1.2.2.2.1 hk
def NP (X : CX) (D : MI → MI → Prop) (c : Nat) (a b r s : Int32) (I J : MI) : Prop := eR X r s I J ∨ (r = 1 ∧ KD X c = 3 ∧ s = VL X c ∧ ¬ s < a ∧ ¬ b < s ∧ I 93 11 = s ∧ LK X D (c + 1) I J)
theorem p_num (hX : Cxt X) (hD : stab D) (h : LK X D c I J) (a b : Int32) : Ok2 (F_Reader_stepNumber a b) (F_R_readNumber a b) I J (NP X D c a b) := by
  unfold F_Reader_stepNumber F_R_readNumber
  rw [o2L e_rd, o2L (kind_A hX h), o2R e_rd, kind_R h]
  by_cases hk : KD X c = 3
  · have h0 : ¬ KD X c = 0 := by rw [hk]; decide
    have h2 := lk_11 hD h (VL X c)
    rw [if_pos hk, if_pos (kR_3.mpr hk), o2L e_rd, o2L (val_A hX h), o2L e_wr, o2L e_rd, bup_eq, upd_eq, o2R e_rd, val_R h (Or.inr (Or.inl hk))]
    by_cases hr : VL X c < a ∨ b < VL X c
    · obtain ⟨I1, J1, f1, f2, f3⟩ := p_fail hX h2 2
      rw [wi_out hr, ri_out hr, bn_rt, bn_rt, if_pos rfl, if_pos rfl, o2L f1, o2R f2, gdZ0, bn_rt, o2_rt]
      exact Or.inl ⟨rfl, rfl, f3⟩
    · have r1 : ¬ VL X c < a := fun z => hr (Or.inl z)
      have r2 : ¬ b < VL X c := fun z => hr (Or.inr z)
      obtain ⟨J1, g1, g2⟩ := p_step hX hD h2 h0
      have g3 := step_A hX h2 h0
      rw [wi_in r1 r2, ri_in r1 r2, bn_rt, bn_rt, if_neg one_ne, if_neg one_ne, o2L g3, o2R e_rd, val_R h (Or.inr (Or.inl hk)), o2R g1, gdZ1, bn_rt, o2_rt]
      refine Or.inr ⟨rfl, hk, rfl, r1, r2, ?_, g2⟩
      unfold sI
      rw [bup_eq, upd_ne _ _ (by decide), bup_eq, upd_eq]
  · obtain ⟨I1, J1, f1, f2, f3⟩ := p_fail hX h 1
    rw [if_neg hk, if_neg fun z => hk (kR_3.mp z), o2L f1, o2R f2, gdZ0, bn_rt, o2_rt]
    exact Or.inl ⟨rfl, rfl, f3⟩
/-- a word, and a number after it -/
def toldA (x a b : Int32) : M Int32 := bn (F_Reader_stepKeyword x) fun v => if v = 0 then bn (gdZ 0) fun _ => rt 0 else F_Reader_stepNumber a b
theorem toldA_bn {x a b : Int32} {f : Int32 → M Int32} (h : f 0 = rt 0) : (bn (F_Reader_stepKeyword x) fun v => if v = 0 then bn (gdZ 0) fun _ => rt 0 else bn (F_Reader_stepNumber a b) f) = bn (toldA x a b) f := by
  unfold toldA
  rw [bn_bn]
  congr 1
  funext v
  rw [bn_ite]
  by_cases hv : v = 0
  · rw [if_pos hv, if_pos hv, gdZ0, bn_rt, bn_rt, h]
  · rw [if_neg hv, if_neg hv]
theorem key_yes (hX : Cxt X) (h : LK X D c I J) {x : Int32} (hk : KD X c = 2 ∧ VL X c = x) : F_Reader_stepKeyword x I = some (1, sI I c) := by
  have h0 : ¬ KD X c = 0 := by rw [hk.1]; decide
  unfold F_Reader_stepKeyword
  rw [bn_of (wrd_A hX h x), if_pos hk, if_neg one_ne, bn_of (step_A hX h h0)]
  rfl
theorem p_told (hX : Cxt X) (hD : stab D) (h : LK X D c I J) (x a b : Int32) : Ok2 (toldA x a b) (F_R_readTold x a b) I J (NP X D (c + 1) a b) := by
  unfold toldA F_R_readTold
  rw [o2R (word_R h x)]
  by_cases hk : KD X c = 2 ∧ VL X c = x
  · have h0 : ¬ KD X c = 0 := by rw [hk.1]; decide
    obtain ⟨J1, g1, g2⟩ := p_step hX hD h h0
    rw [o2L (key_yes hX h hk), if_neg one_ne, if_pos hk, if_neg one_ne, o2R g1]
    have q := p_num hX hD g2 a b
    obtain ⟨r, I1, s, J2, q1, q2, q3⟩ := q
    exact ⟨r, I1, s, J2, q1, by rw [bn_of q2]; rfl, q3⟩
  · obtain ⟨I1, J1, f1, f2, f3⟩ := p_fail hX h 1
    have e : F_Reader_stepKeyword x I = some (0, I1) := by
      unfold F_Reader_stepKeyword
      rw [bn_of (wrd_A hX h x), if_neg hk, if_pos rfl, bn_of f1]
      rfl
    rw [o2L e, if_pos rfl, if_neg hk, if_pos rfl, o2R f2, gdZ0, bn_rt, o2_rt]
    exact Or.inl ⟨rfl, rfl, f3⟩
def MP (X : CX) (D : MI → MI → Prop) (c : Nat) (r s : Int32) (I J : MI) : Prop := eR X r s I J ∨ (r = 1 ∧ s = 0 ∧ LK X D (c + 1) I J)
theorem p_mark (hX : Cxt X) (hD : stab D) (h : LK X D c I J) (x : Int32) (hx : mkC x = true) : Ok2 (F_Reader_stepSign x) (F_R_readMark x) I J (MP X D c) := by
  unfold F_Reader_stepSign F_R_readMark
  rw [o2L (sign_A hX h x), o2R (sign_R h x hx)]
  by_cases hk : KD X c = 4 ∧ VL X c = x
  · have h0 : ¬ KD X c = 0 := by rw [hk.1]; decide
    obtain ⟨J1, g1, g2⟩ := p_step hX hD h h0
    rw [if_pos hk, if_neg one_ne, if_neg one_ne, o2L (step_A hX h h0), o2R g1, gdZ1, bn_rt, o2_rt]
    exact Or.inr ⟨rfl, rfl, g2⟩
  · obtain ⟨I1, J1, f1, f2, f3⟩ := p_fail hX h 1
    rw [if_neg hk, if_pos rfl, if_pos rfl, o2L f1, o2R f2, gdZ0, bn_rt, o2_rt]
    exact Or.inl ⟨rfl, rfl, f3⟩
/-- a line begins: the word is there, and room -/
theorem p_open (hX : Cxt X) (h : LK X D c I J) (x : Int32) (t y : Nat) (hn : I t 3 = nn y) (hr : I t 1 = nn 16) (hy : y ≤ 16) (hk : KD X c = 2 ∧ VL X c = x) : (y < 16 ∧ F_Reader_opensLine x t I = some (1, sI I c)) ∨ (y = 16 ∧ ∃ I1 J1, F_Reader_opensLine x t I = some (0, I1) ∧ F_R_errs 3 J = some (-1, J1) ∧ ER X I1 J1) := by
  have h0 : ¬ KD X c = 0 := by rw [hk.1]; decide
  rcases Nat.lt_or_ge y 16 with h16 | h16
  · refine Or.inl ⟨h16, ?_⟩
    unfold F_Reader_opensLine
    rw [bn_of (wrd_A hX h x), if_pos hk, if_neg one_ne, bn_of (full_no hn hr h16 (by decide)), if_pos rfl, bn_of (step_A hX h h0)]
    rfl
  · have e : y = 16 := by omega
    obtain ⟨I1, J1, f1, f2, f3⟩ := p_fail hX h 3
    refine Or.inr ⟨e, I1, J1, ?_, f2, f3⟩
    unfold F_Reader_opensLine
    rw [bn_of (wrd_A hX h x), if_pos hk, if_neg one_ne, bn_of (full_yes hn hr h16 (by omega)), if_neg one_ne, bn_of f1]
    rfl
theorem open_no (hX : Cxt X) (h : LK X D c I J) (x : Int32) (t : Nat) (hk : ¬ (KD X c = 2 ∧ VL X c = x)) : ∃ I1 J1, F_Reader_opensLine x t I = some (0, I1) ∧ F_R_errs 1 J = some (-1, J1) ∧ ER X I1 J1 := by
  obtain ⟨I1, J1, f1, f2, f3⟩ := p_fail hX h 1
  refine ⟨I1, J1, ?_, f2, f3⟩
  unfold F_Reader_opensLine
  rw [bn_of (wrd_A hX h x), if_neg hk, if_pos rfl, bn_of f1]
  rfl
theorem er_set {a k : Nat} {x : Int32} (h : ER X I J) (hk : kpJ a k = false) (ha : a = 207 → k ≠ 32 ∧ k ≠ 33) : ER X I (bup J a (upd (J a) k x)) := by
  obtain ⟨e1, e2, e3, e4⟩ := h
  refine ⟨?_, ?_, e3, fj_set e4 hk⟩
  · by_cases e : 207 = a
    · subst e; rw [bup_eq, upd_ne _ _ (Ne.symm (ha rfl).1)]; exact e1
    · rw [bup_ne _ _ e]; exact e1
  · by_cases e : 207 = a
    · subst e; rw [bup_eq, upd_ne _ _ (Ne.symm (ha rfl).2)]; exact e2
    · rw [bup_ne _ _ e]; exact e2
/-- the reference writes into its draft -/
theorem lk_J {D2 : MI → MI → Prop} {a k : Nat} {x : Int32} (h : LK X D c I J) (hk : kpJ a k = false) (ha : a ≠ 207) (hd : D2 I (bup J a (upd (J a) k x))) : LK X D2 c I (bup J a (upd (J a) k x)) := by
  obtain ⟨h1, h2, ⟨r1, r2, r3, r4, r5⟩, h4⟩ := h
  refine ⟨h1, h2, ⟨?_, ?_, ?_, ?_, fj_set r5 hk⟩, hd⟩
  · rw [bup_ne _ _ (Ne.symm ha)]; exact r1
  · rw [bup_ne _ _ (Ne.symm ha)]; exact r2
  · rw [bup_ne _ _ (Ne.symm ha)]; exact r3
  · rw [bup_ne _ _ (Ne.symm ha)]; exact r4
theorem lk_D {D2 : MI → MI → Prop} (h : LK X D c I J) (hd : D2 I J) : LK X D2 c I J := ⟨h.1, h.2.1, h.2.2.1, hd⟩
end TK99
