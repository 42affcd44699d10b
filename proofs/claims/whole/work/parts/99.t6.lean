/-! text: the words, reference -/
section TF99
theorem spn_all {p : Int32 → Bool} {T : Nat → Int32} : ∀ m s j, s ≤ j → j < spn p T m s → p (T j) = true := by
  intro m
  induction m with
  | zero => intro s j h1 h2; unfold spn at h2; omega
  | succ m ih =>
    intro s j h1 h2
    unfold spn at h2
    by_cases h : p (T s) = true
    · rw [if_pos h] at h2
      by_cases e : j = s
      · rw [e]; exact h
      · exact ih (s + 1) j (by omega) h2
    · rw [if_neg h] at h2; omega
theorem spn_end {p : Int32 → Bool} {T : Nat → Int32} : ∀ m s, spn p T m s < m + s → ¬ p (T (spn p T m s)) = true := by
  intro m
  induction m with
  | zero => intro s h; unfold spn at h; omega
  | succ m ih =>
    intro s h
    unfold spn at h ⊢
    by_cases hp : p (T s) = true
    · rw [if_pos hp] at h ⊢
      exact ih (s + 1) (by omega)
    · rw [if_neg hp]; exact hp
def eqT (T : Nat → Int32) (s p k : Nat) : Int32 := if wdC (p + 1 + k) = T (s + k) then 1 else 0
theorem eqT_iff {T : Nat → Int32} {s p k : Nat} : (decide (eqT T s p k = 1)) = true ↔ wdC (p + 1 + k) = T (s + k) := by
  unfold eqT
  rw [decide_eq_true_eq]
  by_cases h : wdC (p + 1 + k) = T (s + k)
  · rw [if_pos h]; exact ⟨fun _ => h, fun _ => rfl⟩
  · rw [if_neg h]; exact ⟨fun q => absurd q (by decide), fun q => absurd q h⟩
theorem run_R {J : MI} {s e p l : Nat} {x3 : Int32} (hs : s ≤ e) (he : e ≤ 400) (hp : p + 1 + l ≤ 123) (h5 : wdC (p + 1 + l) = 32) (hJ : ∀ k, k < 124 → J 217 k = wdC k) (hl : ∀ k, s ≤ k → k < e → ¬ J 216 k = 32) : lp (B_R_wordAt_19 (nn s) (nn e) x3 (nn p)) FU 0 J = some (nn (spn (fun x => decide (x = 1)) (eqT (J 216) s p) (min (e - s) l) 0), J) := by
  refine spn_lp (n := min (e - s) l) (fun k hk => ?_) ?_ (min (e - s) l) 0 FU (by omega) (by rw [FU_eq]; omega)
  · have hO : Ok (B_R_wordAt_19 (nn s) (nn e) x3 (nn p) (nn k)) J fun r K => r = (if decide (eqT (J 216) s p k = 1) = true then .inl (nn (k + 1)) else .inr (nn k)) ∧ K = J := by
      have g : nn (s + k) < nn e := (nn_lt (by omega) (by omega)).mpr (by omega)
      have i1 : inR (nn (s + k)) 400 = true := inR_nn (by omega) (by omega)
      have t1 : (nn (s + k)).toNatClampNeg = s + k := nn_nat (by omega)
      have i2 : inR (nn (p + 1 + k)) 124 = true := inR_nn (by omega) (by omega)
      have t2 : (nn (p + 1 + k)).toNatClampNeg = p + 1 + k := nn_nat (by omega)
      unfold B_R_wordAt_19
      rw [nn_add, nn_s, nn_add]
      simp only [ok_ite, if_pos g, ok_bn, ok_ld, i2, t2, i1, t1, true_and, hJ (p + 1 + k) (by omega), nn_s, ok_rt, eqT_iff]
      by_cases h : wdC (p + 1 + k) = J 216 (s + k)
      · simp only [if_pos h, and_self]
      · simp only [if_neg h, and_self]
    obtain ⟨r, K, q1, rfl, rfl⟩ := hO
    exact q1
  · generalize hn : min (e - s) l = n
    have hO : Ok (B_R_wordAt_19 (nn s) (nn e) x3 (nn p) (nn n)) J fun r K => r = .inr (nn n) ∧ K = J := by
      unfold B_R_wordAt_19
      rw [nn_add, nn_s, nn_add]
      by_cases hx : s + n = e
      · have g : ¬ nn (s + n) < nn e := fun q => by have := (nn_lt (by omega) (by omega)).mp q; omega
        simp only [ok_ite, if_neg g, ok_rt, and_self]
      · have hnl : n = l := by omega
        have g : nn (s + n) < nn e := (nn_lt (by omega) (by omega)).mpr (by omega)
        have i1 : inR (nn (s + n)) 400 = true := inR_nn (by omega) (by omega)
        have t1 : (nn (s + n)).toNatClampNeg = s + n := nn_nat (by omega)
        have i2 : inR (nn (p + 1 + n)) 124 = true := inR_nn (by omega) (by omega)
        have t2 : (nn (p + 1 + n)).toNatClampNeg = p + 1 + n := nn_nat (by omega)
        have w : wdC (p + 1 + n) = 32 := by rw [hnl]; exact h5
        have w2 : ¬ (32 : Int32) = J 216 (s + n) := fun q => hl (s + n) (by omega) (by omega) q.symm
        simp only [ok_ite, if_pos g, ok_bn, ok_ld, i2, t2, i1, t1, true_and, hJ (p + 1 + n) (by omega), w, if_neg w2, ok_rt, and_self]
    obtain ⟨r, K, q1, rfl, rfl⟩ := hO
    exact q1
theorem skip_R {J : MI} {p l : Nat} {x1 x2 x3 : Int32} (hp : p + 1 + l ≤ 123) (h4 : ∀ j, j < l → ¬ wdC (p + 1 + j) = 32) (h5 : wdC (p + 1 + l) = 32) (hJ : ∀ k, k < 124 → J 217 k = wdC k) : lp (B_R_wordAt_93 x1 x2 x3) FU (nn (p + 1)) J = some (nn (p + 1 + l), J) := by
  refine lp_val (fun k => nn (p + 1 + k)) l (fun k hk => ?_) ?_ FU (by rw [FU_eq]; omega)
  · have hO : Ok (B_R_wordAt_93 x1 x2 x3 (nn (p + 1 + k))) J fun r K => r = .inl (nn (p + 1 + (k + 1))) ∧ K = J := by
      have i2 : inR (nn (p + 1 + k)) 124 = true := inR_nn (by omega) (by omega)
      have t2 : (nn (p + 1 + k)).toNatClampNeg = p + 1 + k := nn_nat (by omega)
      unfold B_R_wordAt_93
      simp only [ok_bn, ok_ld, i2, t2, true_and, hJ (p + 1 + k) (by omega), ok_ite, if_neg (h4 k hk), ok_rt, nn_s, and_true]
      rw [show p + 1 + k + 1 = p + 1 + (k + 1) by omega]
    obtain ⟨r, K, q1, rfl, rfl⟩ := hO
    exact q1
  · have hO : Ok (B_R_wordAt_93 x1 x2 x3 (nn (p + 1 + l))) J fun r K => r = .inr (nn (p + 1 + l)) ∧ K = J := by
      have i2 : inR (nn (p + 1 + l)) 124 = true := inR_nn (by omega) (by omega)
      have t2 : (nn (p + 1 + l)).toNatClampNeg = p + 1 + l := nn_nat (by omega)
      unfold B_R_wordAt_93
      simp only [ok_bn, ok_ld, i2, t2, true_and, hJ (p + 1 + l) (by omega), ok_ite, h5, if_true, ok_rt, and_self]
    obtain ⟨r, K, q1, rfl, rfl⟩ := hO
    exact q1
theorem wordAt_lp {J : MI} {s e : Nat} (hs : s ≤ e) (he : e ≤ 400) (hJ : ∀ k, k < 124 → J 217 k = wdC k) (hl : ∀ k, s ≤ k → k < e → ¬ J 216 k = 32) : ∀ (L : List (Nat × Nat)) (p i N : Nat) (y : Int32), y + 1 = nn i → okW p L = true → 124 ≤ N + p → lp (B_R_wordAt_5 (nn s) (nn e)) N (y, nn p) J = some (kwR (J 216) s e L i, J) := by
  intro L
  induction L with
  | nil =>
    intro p i N y hy h hN
    have hp : p = 123 := by unfold okW at h; exact of_decide_eq_true h
    subst hp
    obtain ⟨N, rfl⟩ : ∃ N', N = N' + 1 := ⟨N - 1, by omega⟩
    have st : B_R_wordAt_5 (nn s) (nn e) (y, nn 123) J = some (.inr (-1), J) := by
      unfold B_R_wordAt_5
      rw [if_neg (show ¬ nn 123 < (123 : Int32) by decide)]
      rfl
    rw [lp_s, bn_of st]
    rfl
  | cons w r ih =>
    intro p i N y hy h hN
    obtain ⟨q, l⟩ := w
    obtain ⟨rfl, h2, h3, h4, h5, h6⟩ := okW_c h
    obtain ⟨N, rfl⟩ : ∃ N', N = N' + 1 := ⟨N - 1, by omega⟩
    have sk : K_R_wordAt_93 (nn s) (nn e) (nn i) (nn q + 1) J = some (.inl (nn i, nn (q + l + 1)), J) := by
      unfold K_R_wordAt_93
      rw [nn_s, bn_of (skip_R h3 h4 h5 hJ), show q + 1 + l = q + l + 1 by omega]
      rfl
    have st : B_R_wordAt_5 (nn s) (nn e) (y, nn q) J = some (if l = e - s ∧ mtc (J 216) s q l = true then .inr (nn i) else .inl (nn i, nn (q + l + 1)), J) := by
      unfold B_R_wordAt_5
      rw [if_pos (show (y, nn q).2 < (123 : Int32) from (nn_lt (k := 123) (by omega) (by omega)).mpr (by omega))]
      show K_R_wordAt_19 (nn s) (nn e) (y + 1) (nn q) 0 J = _
      rw [hy]
      unfold K_R_wordAt_19
      rw [bn_of (run_R hs he h3 h5 hJ hl)]
      have k0 := spn_le (p := fun x => decide (x = 1)) (T := eqT (J 216) s q) (min (e - s) l) 0
      have ka := spn_all (p := fun x => decide (x = 1)) (T := eqT (J 216) s q) (min (e - s) l) 0
      have ke := spn_end (p := fun x => decide (x = 1)) (T := eqT (J 216) s q) (min (e - s) l) 0
      generalize spn (fun x => decide (x = 1)) (eqT (J 216) s q) (min (e - s) l) 0 = k at k0 ka ke
      unfold K_R_wordAt_60
      rw [nn_add, nn_s, nn_add]
      by_cases hk : s + k = e
      · have i2 : inR (nn (q + 1 + k)) 124 = true := inR_nn (by omega) (by omega)
        rw [if_pos (show nn (s + k) = nn e by rw [hk]), bn_ld _ _ i2, nn_nat (by omega), hJ _ (by omega)]
        by_cases hw : wdC (q + 1 + k) = 32
        · have hkl : k = l := by
            rcases Nat.lt_or_ge k l with z | z
            · exact absurd hw (h4 k z)
            · omega
          rw [if_pos hw, if_pos ⟨by omega, mtc_iff.mpr fun j hj => eqT_iff.mp (ka j (by omega) (by omega))⟩]
          rfl
        · rw [if_neg hw, ← nn_s, sk, if_neg]
          intro z
          have : k = l := by omega
          rw [this] at hw
          exact hw h5
      · rw [if_neg (fun z => hk ((nn_inj (by omega) (by omega)).mp z)), ← nn_s, sk, if_neg]
        intro z
        have hkn : k < min (e - s) l + 0 := by omega
        exact ke hkn (eqT_iff.mpr (mtc_iff.mp z.2 k (by omega)))
    rw [lp_s, bn_of st]
    have e2 : kwR (J 216) s e ((q, l) :: r) i = if l = e - s ∧ mtc (J 216) s q l = true then nn i else kwR (J 216) s e r (i + 1) := rfl
    rw [e2]
    by_cases hc : l = e - s ∧ mtc (J 216) s q l = true
    · rw [if_pos hc, if_pos hc]; rfl
    · rw [if_neg hc, if_neg hc]
      exact ih (q + l + 1) (i + 1) N (nn i) (nn_s i) h6 (by omega)
theorem wordAt_R {J : MI} {s e : Nat} (hs : s ≤ e) (he : e ≤ 400) (hJ : ∀ k, k < 124 → J 217 k = wdC k) (hl : ∀ k, s ≤ k → k < e → ¬ J 216 k = 32) : F_R_wordAt (nn s) (nn e) J = some (kwR (J 216) s e wdL 0, J) := by
  unfold F_R_wordAt K_R_wordAt_5
  exact wordAt_lp hs he hJ hl wdL 0 0 FU (-1) (by decide) wd_ok (by rw [FU_eq]; omega)
end TF99
