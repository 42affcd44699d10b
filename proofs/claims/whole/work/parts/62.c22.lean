/-! settled: the reference's side -/
section SC22
def zS (v : Nat → Int32) : Nat → Nat
  | 0 => 0
  | k + 1 => if v k = 0 then zS v k else zS v k ||| 2 ^ k
theorem zS_lt {v : Nat → Int32} : ∀ k, k ≤ 6 → zS v k < 2 ^ k := by
  intro k
  induction k with
  | zero => intro _; exact Nat.zero_lt_one
  | succ k ih =>
    intro h
    have := ih (by omega)
    unfold zS
    have h2 : 2 ^ (k + 1) = 2 ^ k + 2 ^ k := by omega
    split
    · omega
    · exact Nat.or_lt_two_pow (by omega) (by omega)
theorem zS_bit {v : Nat → Int32} {i : Nat} : ∀ k, k ≤ 6 → (zS v k).testBit i = (decide (i < k) && !decide (v i = 0)) := by
  intro k
  induction k with
  | zero => intro _; simp [zS]
  | succ k ih =>
    intro h
    have := ih (by omega)
    unfold zS
    by_cases hv : v k = 0
    · rw [if_pos hv, this]
      by_cases hik : i = k
      · subst hik; simp [hv]
      · by_cases h2 : i < k
        · simp [h2, show i < k + 1 by omega]
        · simp [h2, show ¬ i < k + 1 by omega]
    · rw [if_neg hv, Nat.testBit_or, this, Nat.testBit_two_pow]
      by_cases hik : i = k
      · subst hik; simp [hv]
      · by_cases h2 : i < k
        · simp [h2, show i < k + 1 by omega, Ne.symm hik]
        · simp [h2, show ¬ i < k + 1 by omega, Ne.symm hik]
theorem mask_R {J : MI} {v : Nat → Int32} (hv : ∀ i, i < 6 → J 250 i = v i) : lp B_R_fewestGifts_4 FU (0, 0) J = some (nn (zS v 6), J) := by
  refine lp_val (body := B_R_fewestGifts_4) (I := J) (fun k => (nn (zS v k), nn k)) 6 (fun k hk => ?_) ?_ FU (by rw [FU_eq]; omega)
  · have e1 : inR (nn k) 6 = true := inR_nn hk (by omega)
    have e2 : (nn k).toNatClampNeg = k := nn_nat (by omega)
    have e3 : nn k < 6 := (nn_lt (k := 6) (by omega) (by omega)).mpr hk
    have zl := zS_lt (v := v) k (by omega)
    have pl : 2 ^ k < 2 ^ 31 := Nat.pow_lt_pow_right (by omega) (by omega)
    have hO : Ok (B_R_fewestGifts_4 (nn (zS v k), nn k)) J fun r J1 => r = .inl (nn (zS v (k + 1)), nn (k + 1)) ∧ J1 = J := by
      unfold B_R_fewestGifts_4
      rw [show zS v (k + 1) = if v k = 0 then zS v k else zS v k ||| 2 ^ k from rfl]
      by_cases c : v k = 0
      · simp only [ok_bn, ok_ite, ok_ld, ok_rt, if_pos e3, e1, e2, hv k hk, if_pos c, nn_s, true_and, and_self]
      · simp only [ok_bn, ok_ite, ok_ld, ok_rt, if_pos e3, e1, e2, hv k hk, if_neg c, nn_s, true_and, and_self, shl_nn (b := k) (by omega), or_nn (a := zS v k) (b := 2 ^ k) (by omega) pl]
    obtain ⟨r, J1, q1, rfl, rfl⟩ := hO
    exact q1
  · have e3 : ¬ nn 6 < 6 := by decide
    unfold B_R_fewestGifts_4
    exact congrFun (if_neg e3) J
theorem nn_max2 {a b : Nat} (ha : a < 2 ^ 31) (hb : b < 2 ^ 31) : (if nn b < nn a then nn a else nn b) = nn (max a b) := max_comm.symm.trans (nn_max ha hb)
theorem ge_R {K : MI} {v : Nat → Int32} {E : Nat → Nat} {k Z : Nat} (hk : k < 64) (hZ : Z < 64) (hv : ∀ i, i < 6 → K 250 i = v i) (h1 : ∀ s, s < k → K 251 s = nn (E s)) (h2 : ∀ s, s < k → E s ≤ s) : lp (B_R_fewestGifts_47 (nn Z) (nn k)) FU (0, 0, 0) K = some ((sS v (k &&& Z) 6, nn (bM E (k &&& Z) 6)), K) := by
  have le : k &&& Z ≤ k := Nat.and_le_left
  have hm : k &&& Z < 64 := by omega
  have ea : nn k &&& nn Z = nn (k &&& Z) := and_nn (by omega) (by omega)
  refine lp_val (body := B_R_fewestGifts_47 (nn Z) (nn k)) (I := K) (fun j => (sS v (k &&& Z) j, nn (bM E (k &&& Z) j), nn j)) 6 (fun j hj => ?_) ?_ FU (by rw [FU_eq]; omega)
  · have e1 : inR (nn j) 6 = true := inR_nn hj (by omega)
    have e2 : (nn j).toNatClampNeg = j := nn_nat (by omega)
    have e3 : nn j < 6 := (nn_lt (k := 6) (by omega) (by omega)).mpr hj
    have hO : Ok (B_R_fewestGifts_47 (nn Z) (nn k) (sS v (k &&& Z) j, nn (bM E (k &&& Z) j), nn j)) K fun r J1 => r = .inl (sS v (k &&& Z) (j + 1), nn (bM E (k &&& Z) (j + 1)), nn (j + 1)) ∧ J1 = K := by
      unfold B_R_fewestGifts_47
      rw [sS_s, bM_s]
      by_cases hb : (k &&& Z).testBit j = true
      · have x1 := xor_lt hm hj hb
        have x2 := h2 _ (show (k &&& Z) ^^^ 2 ^ j < k by omega)
        have x3 := bM_up (k := j) (E := E) hm (by omega) (fun s hs => h2 s (by omega))
        have e4 : inR (nn ((k &&& Z) ^^^ 2 ^ j)) 64 = true := inR_nn (by omega) (by omega)
        have e5 : (nn ((k &&& Z) ^^^ 2 ^ j)).toNatClampNeg = (k &&& Z) ^^^ 2 ^ j := nn_nat (by omega)
        have e6 : ¬ (1 : Int32) = 0 := by decide
        simp only [ok_bn, ok_ld, ok_ite, ok_rt, if_pos e3, ea, has_nn (m := k &&& Z) (b := j) (by omega) (by omega), if_pos hb, if_neg e6, e1, e2, e4, e5, (xr_at hm hj).2 hb, true_and, hv j hj, h1 _ (show (k &&& Z) ^^^ 2 ^ j < k by omega), gr_R, nn_max2 (a := bM E (k &&& Z) j) (b := E ((k &&& Z) ^^^ 2 ^ j)) (by omega) (by omega), nn_s, and_self]
      · simp only [ok_bn, ok_ite, ok_rt, if_pos e3, ea, has_nn (m := k &&& Z) (b := j) (by omega) (by omega), if_neg hb, if_true, nn_s]
        simp
    obtain ⟨r, J1, q1, rfl, rfl⟩ := hO
    exact q1
  · have e3 : ¬ nn 6 < 6 := by decide
    unfold B_R_fewestGifts_47
    exact congrFun (if_neg e3) K
theorem few_R {J : MI} {v : Nat → Int32} (hv : ∀ i, i < 6 → J 250 i = v i) : ∃ T F, F_R_fewestGifts J = some (nn (pcN (zS v 6)) - nn (F (zS v 6)), bup J 251 T) ∧ (∀ s, s < 64 → F s ≤ s) ∧ ∀ s, s < 64 → F s = geV v F (s &&& zS v 6) := by
  have zl : zS v 6 < 64 := zS_lt (v := v) 6 (by omega)
  have z1 : inR (nn (zS v 6)) 64 = true := inR_nn zl (by omega)
  have z2 : (nn (zS v 6)).toNatClampNeg = zS v 6 := nn_nat (by omega)
  have hl := ge_lp (body := B_R_fewestGifts_33 (nn (zS v 6))) (I := J) (a := 251) (Z := zS v 6) (k0 := 0) (v := v) (f := fun T => nn (pcN (zS v 6)) - T (zS v 6)) (T0 := J 251) (by omega) (fun k T E k1 k2 q1 q2 => by
      have e3 : nn k < 64 := (nn_lt (k := 64) (by omega) (by omega)).mpr k2
      have e1 : inR (nn k) 64 = true := inR_nn k2 (by omega)
      have e2 : (nn k).toNatClampNeg = k := nn_nat (by omega)
      have t := ge_R (K := bup J 251 T) (v := v) (E := E) (k := k) k2 zl (fun i hi => by rw [bup_ne _ _ (by decide), hv i hi]) (fun s hs => by rw [bup_eq]; exact q1 s hs) q2
      have le : k &&& zS v 6 ≤ k := Nat.and_le_left
      have ea : nn k &&& nn (zS v 6) = nn (k &&& zS v 6) := and_nn (by omega) (by omega)
      have hO : Ok (B_R_fewestGifts_33 (nn (zS v 6)) (nn k)) (bup J 251 T) fun r J1 => r = .inl (nn (k + 1)) ∧ J1 = bup J 251 (upd T k (nn (geV v E (k &&& zS v 6)))) := by
        unfold B_R_fewestGifts_33 K_R_fewestGifts_47 K_R_fewestGifts_108 geV
        by_cases z : sS v (k &&& zS v 6) 6 = 0
        · by_cases m0 : k &&& zS v 6 = 0
          · have m1 : nn (k &&& zS v 6) = 0 := by rw [m0]; rfl
            simp only [ok_bn, ok_ite, if_pos e3, ok_eq t, if_pos z, ea, if_pos m1, ok_sr, ok_rt, e1, e2, true_and, bup_eq, bup_bup, nn_s, Int32.add_zero]
            rw [if_neg (fun q => q.2 m0)]
            trivial
          · have m1 : ¬ nn (k &&& zS v 6) = 0 := nn_ne (k := 0) (by omega) (by decide) m0
            simp only [ok_bn, ok_ite, if_pos e3, ok_eq t, if_pos z, ea, if_neg m1, ok_sr, ok_rt, e1, e2, true_and, bup_eq, bup_bup, nn_s]
            rw [if_pos ⟨z, m0⟩]
        · simp only [ok_bn, ok_ite, if_pos e3, ok_eq t, if_neg z, ok_sr, ok_rt, e1, e2, true_and, bup_eq, bup_bup, nn_s, Int32.add_zero]
          rw [if_neg (fun q => z q.1)]
          trivial
      obtain ⟨r, J1, q, rfl, rfl⟩ := hO
      exact q)
    (fun T => by
      have e3 : ¬ nn 64 < 64 := by decide
      have hO : Ok (B_R_fewestGifts_33 (nn (zS v 6)) (nn 64)) (bup J 251 T) fun r J1 => r = .inr (nn (pcN (zS v 6)) - T (zS v 6)) ∧ J1 = bup J 251 T := by
        unfold B_R_fewestGifts_33
        simp only [ok_bn, ok_ite, if_neg e3, on_nn (m := zS v 6) (by omega), ok_ld, ok_rt, z1, z2, true_and, bup_eq]
      obtain ⟨r, J1, q, rfl, rfl⟩ := hO
      exact q)
    (fun s hs => absurd hs (by omega))
  obtain ⟨T, E, h2, q1, q2, q3⟩ := hl
  refine ⟨T, E, ?_, q2, q3⟩
  rw [← q1 _ zl]
  rw [bup_self] at h2
  unfold F_R_fewestGifts K_R_fewestGifts_4 K_R_fewestGifts_31 K_R_fewestGifts_33
  rw [bn_of (mask_R hv)]
  exact h2
end SC22
