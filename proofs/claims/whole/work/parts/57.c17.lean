/-! named -/
section SC17
/-- two loops side by side -/
def sdQ {σ τ α β : Type} (P : σ → MI → τ → MI → Prop) (Q : α → MI → β → MI → Prop) (r : σ ⊕ α) (I : MI) (s : τ ⊕ β) (J : MI) : Prop := match r, s with
  | .inl x, .inl y => P x I y J
  | .inr a, .inr b => Q a I b J
  | _, _ => False
theorem sd_l {σ τ α β : Type} {P : σ → MI → τ → MI → Prop} {Q : α → MI → β → MI → Prop} {x : σ} {y : τ} {I J : MI} : sdQ P Q (.inl x) I (.inl y) J ↔ P x I y J := Iff.rfl
theorem sd_r {σ τ α β : Type} {P : σ → MI → τ → MI → Prop} {Q : α → MI → β → MI → Prop} {x : α} {y : β} {I J : MI} : sdQ P Q (.inr x) I (.inr y) J ↔ Q x I y J := Iff.rfl
theorem lpS {σ τ α β : Type} {b1 : σ → M (σ ⊕ α)} {b2 : τ → M (τ ⊕ β)} {Q : α → MI → β → MI → Prop} (S : Nat → σ → MI → τ → MI → Prop) (hs : ∀ k x I y J, S k x I y J → Ok (b1 x) I fun r I1 => Ok (b2 y) J fun s J1 => sdQ (fun x I y J => ∃ j, j < k ∧ S j x I y J) Q r I1 s J1) : ∀ N k x I y J, k < N → S k x I y J → Ok (lp b1 N x) I fun a I1 => Ok (lp b2 N y) J fun b J1 => Q a I1 b J1 := by
  intro N
  induction N with
  | zero => intro k x I y J h; exact absurd h (by omega)
  | succ N ih =>
    intro k x I y J hk h
    rw [lp_s, lp_s, ok_bn]
    refine ok_mono (hs k x I y J h) fun r I1 h1 => ?_
    obtain ⟨s, J1, h2, h3⟩ := h1
    cases r with
    | inl x1 =>
      cases s with
      | inl y1 =>
        obtain ⟨j, hj, h4⟩ := h3
        refine ok_mono (ih j x1 I1 y1 J1 (by omega) h4) fun a I2 h5 => ?_
        rw [ok_bn, ok_eq h2]
        exact h5
      | inr b => exact h3.elim
    | inr a =>
      cases s with
      | inl y1 => exact h3.elim
      | inr b =>
        rw [ok_rt, ok_bn, ok_eq h2, ok_rt]
        exact h3
theorem pu_cc (a b : Int32) : PuM (F_Riddles_choices a b) := by
  unfold F_Riddles_choices K_Riddles_choices_4
  refine pu_lp (fun y => ?_) _ _
  unfold B_Riddles_choices_4
  exact pu_ite (pu_rt _) (pu_dvI (pu_rt _))
theorem pu_cr (a b : Int32) : PuM (F_R_choose a b) := by
  unfold F_R_choose K_R_choose_5
  refine pu_lp (fun y => ?_) _ _
  unfold B_R_choose_5
  exact pu_ite (pu_dvI (pu_rt _)) (pu_rt _)
def ccOK (m k : Nat) : Bool := match vaM (F_Riddles_choices (nn m) (nn k)) with
  | some c => decide (k ≤ m) && decide (vaM (F_R_choose (nn m) (nn k)) = some c) || decide (m < k)
  | none => decide (m < k)
theorem cc_all : (List.range 6).all (fun m => (List.range 5).all fun k => ccOK m (k + 1)) = true := by decide +kernel
theorem cc_use {m k : Nat} (hm : m < 6) (hk : 1 ≤ k) (hkm : k ≤ m) : ∃ c, (∀ I, F_Riddles_choices (nn m) (nn k) I = some (c, I)) ∧ ∀ I, F_R_choose (nn m) (nn k) I = some (c, I) := by
  have h := List.all_eq_true.mp (List.all_eq_true.mp cc_all m (List.mem_range.mpr hm)) (k - 1) (List.mem_range.mpr (by omega))
  rw [show k - 1 + 1 = k by omega] at h
  unfold ccOK at h
  cases hd : vaM (F_Riddles_choices (nn m) (nn k)) with
  | none => rw [hd] at h; exact absurd (of_decide_eq_true h) (by omega)
  | some c =>
    rw [hd] at h
    refine ⟨c, fun I => pu_va (pu_cc _ _) hd I, fun I => pu_va (pu_cr _ _) ?_ I⟩
    have h2 : (decide (k ≤ m) && decide (vaM (F_R_choose (nn m) (nn k)) = some c) || decide (m < k)) = true := h
    rw [decide_eq_false (show ¬ m < k by omega), Bool.or_false] at h2
    exact of_decide_eq_true (and_mp h2).2
/-- the rows alike -/
def NM (I0 J0 I J : MI) : Prop := ∃ g h : Nat → Int32, I = bup I0 203 g ∧ J = bup J0 249 h ∧ ∀ i, i < 6 → g i = h i
theorem bup_bup {α : Type} (I : Nat → α) (a : Nat) (g h : α) : bup (bup I a g) a h = bup I a h := by
  funext j
  by_cases hj : j = a
  · subst hj; rw [bup_eq, bup_eq]
  · rw [bup_ne _ _ hj, bup_ne _ _ hj, bup_ne _ _ hj]
theorem nm_in {I0 J0 : MI} {x1 : Int32} {b m : Nat} (hb : b < 26) (hm : m < 6) {I J : MI} (h : NM I0 J0 I J) : Ok (lp (B_Riddles_rows_95 x1 (nn b) (nn m)) FU 1) I fun _ I1 => Ok (lp (B_R_named_100 x1 (nn b) (I0 202 b) (nn m)) FU 1) J fun _ J1 => NM I0 J0 I1 J1 := by
  refine lpS (Q := fun _ I1 _ J1 => NM I0 J0 I1 J1) (fun j x I y J => ∃ k, 1 ≤ k ∧ k ≤ m + 1 ∧ j = m + 1 - k ∧ x = nn k ∧ y = nn k ∧ NM I0 J0 I J) (fun j x I y J hS => ?_) FU m 1 I 1 J (by rw [FU_eq]; omega) ⟨1, by omega, by omega, by omega, rfl, rfl, h⟩
  obtain ⟨k, k1, k2, rfl, rfl, rfl, g, h, rfl, rfl, hg⟩ := hS
  have e1 : inR (nn b) 26 = true := inR_nn hb (by omega)
  have e2 : (nn b).toNatClampNeg = b := nn_nat (by omega)
  have e3 : inR (nn m) 6 = true := inR_nn hm (by omega)
  have e4 : (nn m).toNatClampNeg = m := nn_nat (by omega)
  unfold B_Riddles_rows_95 B_R_named_100
  by_cases c1 : I0 202 b < nn k
  · simp (decide := true) only [ok_bn, ok_ld, ok_rt, ok_ite, e1, e2, bup_ne, c1, if_true, true_and]
    exact sd_r.mpr ⟨g, h, rfl, rfl, hg⟩
  · by_cases c2 : m < k
    · have c3 : nn m < nn k := (nn_lt (by omega) (by omega)).mpr c2
      simp (decide := true) only [ok_bn, ok_ld, ok_rt, ok_ite, e1, e2, bup_ne, c1, c3, if_true, if_false, true_and]
      exact sd_r.mpr ⟨g, h, rfl, rfl, hg⟩
    · have c3 : ¬ nn m < nn k := fun q => c2 ((nn_lt (by omega) (by omega)).mp q)
      obtain ⟨c, hA, hR⟩ := cc_use hm k1 (by omega)
      have e5 : nn m - nn k = nn (m - k) := nn_sub (by omega)
      have e6 : inR (nn (m - k)) 6 = true := inR_nn (by omega) (by omega)
      have e7 : (nn (m - k)).toNatClampNeg = m - k := nn_nat (by omega)
      simp (decide := true) only [ok_bn, ok_ld, ok_sr, ok_rt, ok_ite, ok_eq (hA _), ok_eq (hR _), e1, e2, e3, e4, e5, e6, e7, bup_eq, bup_ne, bup_bup, c1, c3, if_false, true_and]
      refine sd_l.mpr ⟨m + 1 - (k + 1), by omega, k + 1, by omega, by omega, rfl, nn_s k, nn_s k, _, _, rfl, rfl, ?_⟩
      intro i hi
      by_cases hi2 : i = m
      · subst hi2; rw [upd_eq, upd_eq, hg i hi, hg _ (by omega), Int32.mul_comm]
      · rw [upd_ne _ _ hi2, upd_ne _ _ hi2, hg i hi]
theorem m1_6 : ∀ j, j < 6 → j ≠ 0 → nn j + (-1) = nn (j - 1) := by decide
theorem nm_mid {I0 J0 : MI} {x1 : Int32} {b : Nat} (hb : b < 26) {I J : MI} (h : NM I0 J0 I J) : Ok (lp (B_Riddles_rows_88 x1 (nn b)) FU 5) I fun _ I1 => Ok (lp (B_R_named_92 x1 (nn b) (I0 202 b)) FU 5) J fun _ J1 => NM I0 J0 I1 J1 := by
  refine lpS (Q := fun _ I1 _ J1 => NM I0 J0 I1 J1) (fun j x I y J => j < 6 ∧ x = nn j ∧ y = nn j ∧ NM I0 J0 I J) (fun j x I y J hS => ?_) FU 5 5 I 5 J (by rw [FU_eq]; omega) ⟨by omega, rfl, rfl, h⟩
  obtain ⟨hj, rfl, rfl, hn⟩ := hS
  unfold B_Riddles_rows_88 B_R_named_92 K_Riddles_rows_95 K_R_named_100 K_Riddles_rows_143 K_R_named_153
  by_cases c1 : j = 0
  · subst c1
    have c2 : ¬ (0 : Int32) < nn 0 := by decide
    simp only [ok_ite, if_neg c2, ok_rt]
    exact sd_r.mpr hn
  · have c2 : (0 : Int32) < nn j := (nn_lt (j := 0) (by omega) (by omega)).mpr (by omega)
    have e : nn j + (-1) = nn (j - 1) := m1_6 j hj c1
    simp only [ok_ite, if_pos c2, ok_bn]
    refine ok_mono (nm_in (x1 := x1) hb hj hn) fun _ I1 h1 => ?_
    rw [ok_rt]
    refine ok_mono h1 fun _ J1 h2 => ?_
    rw [ok_rt]
    exact sd_l.mpr ⟨j - 1, by omega, by omega, e, e, h2⟩
theorem nm_cnt {J : MI} {x1 : Int32} {b n : Nat} (hn : n ≤ 10) (h3 : J 207 67 = nn n) : lp (B_R_named_59 x1 (nn b)) FU (0, 0) J = some (cntF (fun i => decide (J 248 i = nn b)) n, J) := by
  refine cnt_lp _ (by omega) (fun k x hk => ?_) (fun x => ?_)
  · unfold B_R_named_59
    have e1 : inR (nn k) 10 = true := inR_nn (by omega) (by omega)
    have e2 : (nn k).toNatClampNeg = k := nn_nat (by omega)
    have e3 : nn k < nn n := (nn_lt (by omega) (by omega)).mpr hk
    have hO : Ok (B_R_named_59 x1 (nn b) (x, nn k)) J fun r J1 => r = .inl (if decide (J 248 k = nn b) = true then x + 1 else x, nn (k + 1)) ∧ J1 = J := by
      unfold B_R_named_59
      by_cases c : J 248 k = nn b
      · simp only [ok_bn, ok_rd, ok_ld, ok_ite, ok_rt, h3, e1, e2, if_pos e3, if_pos c, decide_eq_true c, if_true, nn_s]
        simp
      · simp only [ok_bn, ok_rd, ok_ld, ok_ite, ok_rt, h3, e1, e2, if_pos e3, if_neg c, decide_eq_false c, nn_s]
        simp
    obtain ⟨r, J1, q1, rfl, rfl⟩ := hO
    exact q1
  · have e3 : ¬ nn n < nn n := fun q => by rw [nn_lt (by omega) (by omega)] at q; omega
    have hO : Ok (B_R_named_59 x1 (nn b) (x, nn n)) J fun r J1 => r = .inr x ∧ J1 = J := by
      unfold B_R_named_59
      simp only [ok_bn, ok_rd, ok_ite, ok_rt, h3, if_neg e3]
      simp
    obtain ⟨r, J1, q1, rfl, rfl⟩ := hO
    exact q1
theorem nm_out {I0 J0 : MI} {q n : Nat} (hq : q < 6) (hn : n ≤ 10) (h3 : J0 207 67 = nn n) (hc : ∀ b, b < 26 → I0 202 b = cntF (fun i => decide (J0 248 i = nn b)) n) {I J : MI} (h : NM I0 J0 I J) : Ok (K_Riddles_rows_80 (nn q) 0) I fun v I1 => Ok (K_R_named_48 (nn q) 0) J fun u J1 => u = v ∧ NM I0 J0 I1 J1 := by
  have q3 := rng_in (a := 0) (b := 5) (by decide) (Nat.zero_le q) (by omega)
  have wA : F_A_within (nn q) 0 5 = rt 1 := wi_in q3.1 q3.2
  have e1 : inR (nn q) 6 = true := inR_nn hq (by omega)
  have e2 : (nn q).toNatClampNeg = q := nn_nat (by omega)
  unfold K_Riddles_rows_80 K_R_named_48 K_Riddles_rows_155
  rw [ok_bn]
  refine ok_mono (lpS (Q := fun _ I1 u J1 => u = I1 203 q ∧ NM I0 J0 I1 J1) (b1 := B_Riddles_rows_80 (nn q)) (b2 := B_R_named_48 (nn q)) (fun j x I y J => ∃ b, b ≤ 26 ∧ j = 26 - b ∧ x = nn b ∧ y = nn b ∧ NM I0 J0 I J) (fun j x I y J hS => ?_) FU 26 0 I 0 J (by rw [FU_eq]; omega) ⟨0, by omega, rfl, rfl, rfl, h⟩) fun _ I1 h1 => ?_
  · obtain ⟨b, hb, rfl, rfl, rfl, hm⟩ := hS
    unfold B_Riddles_rows_80 B_R_named_48 K_Riddles_rows_88 K_Riddles_rows_149 K_R_named_59 K_R_named_89 K_R_named_92 K_R_named_159
    rcases Nat.lt_or_ge b 26 with c | c
    · have c2 : nn b < 26 := (nn_lt (k := 26) (by omega) (by omega)).mpr c
      have hJ : lp (B_R_named_59 (nn q) (nn b)) FU (0, 0) J = some (I0 202 b, J) := by
        obtain ⟨g, h, rfl, rfl, hg⟩ := hm
        rw [nm_cnt hn (by rw [bup_ne _ _ (by decide)]; exact h3), hc b c]
        rw [bup_ne _ _ (by decide)]
      simp only [ok_ite, if_pos c2, ok_bn, ok_eq hJ]
      refine ok_mono (nm_mid (x1 := nn q) c hm) fun _ I1 h1 => ?_
      rw [ok_rt]
      refine ok_mono h1 fun _ J1 h2 => ?_
      rw [ok_rt]
      exact sd_l.mpr ⟨26 - (b + 1), by omega, b + 1, by omega, rfl, nn_s b, nn_s b, h2⟩
    · have c2 : ¬ nn b < 26 := fun p => by have := (nn_lt (k := 26) (by omega) (by omega)).mp p; omega
      obtain ⟨g, h, rfl, rfl, hg⟩ := hm
      simp only [ok_ite, if_neg c2, ok_bn, ok_rt, ok_ld, e1, e2, true_and, bup_eq]
      exact sd_r.mpr ⟨(hg q hq).symm, g, h, rfl, rfl, hg⟩
  · simp (decide := true) only [ok_bn, wA, ok_rt, ok_ite, if_false, ok_ld, e1, e2, true_and]
    exact h1
end SC17
