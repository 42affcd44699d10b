/-! settled: the class's side -/
section SC21
theorem get_A {I J : MI} {n i : Nat} (hn : n ≤ 8) (hi : i < 6) (hw : I 45 0 = nn 3) (h3 : I 45 3 = nn n) : F_Riddles_toGet (nn i) I = some (loanS (I 46) i n, I) := by
  unfold F_Riddles_toGet K_Riddles_toGet_4
  have hs : siz shT (45 + 1) = 24 := by decide +kernel
  refine lp_val (body := B_Riddles_toGet_4 (nn i)) (I := I) (fun k => (loanS (I 46) i k, nn k)) n (fun k hk => ?_) ?_ FU (by rw [FU_eq]; omega)
  · have e3 : nn k < nn n := (nn_lt (by omega) (by omega)).mpr hk
    have t : ∀ c, c < 3 → F_Table_at 45 (nn k) (nn c) I = some (I 46 (3 * k + c), I) := fun c hc => by
      have t := at_ok (I := I) (t := 45) (w := 3) (n := n) (i := k) (k := c) hw h3 hk hc (by rw [hs]; omega) (by omega) (by decide) (by omega)
      rw [Nat.mul_comm k 3] at t
      exact t
    have t0 : F_Table_at 45 (nn k) 0 I = some (I 46 (3 * k), I) := t 0 (by decide)
    have t1 : F_Table_at 45 (nn k) 1 I = some (I 46 (3 * k + 1), I) := t 1 (by decide)
    have t2 : F_Table_at 45 (nn k) 2 I = some (I 46 (3 * k + 2), I) := t 2 (by decide)
    have hO : Ok (B_Riddles_toGet_4 (nn i) (loanS (I 46) i k, nn k)) I fun r J1 => r = .inl (loanS (I 46) i (k + 1), nn (k + 1)) ∧ J1 = I := by
      unfold B_Riddles_toGet_4
      rw [show loanS (I 46) i (k + 1) = loanS (I 46) i k + (if I 46 (3 * k) = nn i then I 46 (3 * k + 2) else 0) - (if I 46 (3 * k + 1) = nn i then I 46 (3 * k + 2) else 0) from rfl]
      by_cases c0 : I 46 (3 * k) = nn i
      · by_cases c1 : I 46 (3 * k + 1) = nn i
        · simp only [ok_bn, ok_rd, ok_ite, ok_rt, h3, if_pos e3, ok_eq t0, ok_eq t1, ok_eq t2, if_pos c0, if_pos c1, nn_s, and_self]
        · simp only [ok_bn, ok_rd, ok_ite, ok_rt, h3, if_pos e3, ok_eq t0, ok_eq t1, ok_eq t2, if_pos c0, if_neg c1, nn_s, and_self]
      · by_cases c1 : I 46 (3 * k + 1) = nn i
        · simp only [ok_bn, ok_rd, ok_ite, ok_rt, h3, if_pos e3, ok_eq t0, ok_eq t1, ok_eq t2, if_neg c0, if_pos c1, nn_s, and_self]
        · simp only [ok_bn, ok_rd, ok_ite, ok_rt, h3, if_pos e3, ok_eq t0, ok_eq t1, ok_eq t2, if_neg c0, if_neg c1, nn_s, and_self]
    obtain ⟨r, J1, q1, rfl, rfl⟩ := hO
    exact q1
  · have e3 : ¬ nn n < nn n := fun q => by have := (nn_lt (by omega) (by omega)).mp q; omega
    have hO : Ok (B_Riddles_toGet_4 (nn i) (loanS (I 46) i n, nn n)) I fun r J1 => r = .inr (loanS (I 46) i n) ∧ J1 = I := by
      unfold B_Riddles_toGet_4
      simp only [ok_bn, ok_rd, ok_ite, ok_rt, h3, if_neg e3, and_self]
    obtain ⟨r, J1, q1, rfl, rfl⟩ := hO
    exact q1
theorem row_A {I : MI} {n : Nat} (hn : n ≤ 8) (hw : I 45 0 = nn 3) (h3 : I 45 3 = nn n) : ∃ G, lp B_Riddles_fewestGifts_2 FU 0 I = some ((), bup I 204 G) ∧ ∀ i, i < 6 → G i = loanS (I 46) i n := by
  have hl := ok_lp (body := B_Riddles_fewestGifts_2) (Q := fun (_ : Unit) K => ∃ G, K = bup I 204 G ∧ ∀ i, i < 6 → G i = loanS (I 46) i n) (fun k x K => x = nn k ∧ ∃ G, K = bup I 204 G ∧ ∀ i, i < k → G i = loanS (I 46) i n) 6
    (fun k x K hk hi => by
      obtain ⟨rfl, G, rfl, hG⟩ := hi
      have e1 : inR (nn k) 6 = true := inR_nn hk (by omega)
      have e2 : (nn k).toNatClampNeg = k := nn_nat (by omega)
      have e3 : nn k < 6 := (nn_lt (k := 6) (by omega) (by omega)).mpr hk
      have t := get_A (I := bup I 204 G) (J := I) (i := k) hn hk (by rw [bup_ne _ _ (by decide)]; exact hw) (by rw [bup_ne _ _ (by decide)]; exact h3)
      rw [show (bup I 204 G) 46 = I 46 from bup_ne _ _ (by decide)] at t
      unfold B_Riddles_fewestGifts_2
      simp only [ok_bn, ok_ite, if_pos e3, ok_eq t, ok_rt, ok_sr, e1, e2, true_and, bup_eq, bup_bup]
      refine ⟨nn_s k, _, rfl, fun i hi => ?_⟩
      by_cases hik : i = k
      · subst hik; rw [upd_eq]
      · rw [upd_ne _ _ hik]; exact hG i (by omega))
    (fun x K hi => by
      obtain ⟨rfl, G, rfl, hG⟩ := hi
      have e3 : ¬ nn 6 < 6 := by decide
      unfold B_Riddles_fewestGifts_2
      simp only [ok_ite, if_neg e3, ok_rt]
      exact ⟨G, rfl, hG⟩) FU 0 I (by rw [FU_eq]; omega) ⟨rfl, I 204, (bup_self I 204).symm, fun i hi => absurd hi (by omega)⟩
  obtain ⟨x, K, h1, G, rfl, hG⟩ := hl
  exact ⟨G, h1, hG⟩
theorem few_A {I : MI} {n : Nat} {v : Nat → Int32} (hn : n ≤ 8) (hw : I 45 0 = nn 3) (h3 : I 45 3 = nn n) (hv : ∀ i, i < 6 → loanS (I 46) i n = v i) : ∃ G T E, F_Riddles_fewestGifts I = some (6 - nn (E 63), bup (bup I 204 G) 205 T) ∧ E 63 ≤ 63 ∧ ∀ s, s < 64 → E s = geV v E (s &&& 63) := by
  obtain ⟨G, h1, hG⟩ := row_A hn hw h3
  have hl := ge_lp (body := B_Riddles_fewestGifts_34) (I := bup I 204 G) (a := 205) (Z := 63) (k0 := 1) (v := v) (f := fun T => 6 - T 63) (T0 := upd ((bup I 204 G) 205) 0 0) (by omega) (fun k T E k1 k2 q1 q2 => by
      have e3 : nn k < 64 := (nn_lt (k := 64) (by omega) (by omega)).mpr k2
      have e1 : inR (nn k) 64 = true := inR_nn k2 (by omega)
      have e2 : (nn k).toNatClampNeg = k := nn_nat (by omega)
      have t := ge_A (K := bup (bup I 204 G) 205 T) (v := v) (E := E) (m := k) k2 (fun i hi => by rw [bup_ne _ _ (by decide), bup_eq, hG i hi, hv i hi]) (fun s hs => by rw [bup_eq]; exact q1 s hs) q2
      have a63 : ∀ k, k < 64 → k &&& 63 = k := by decide +kernel
      rw [a63 k k2]
      have hO : Ok (B_Riddles_fewestGifts_34 (nn k)) (bup (bup I 204 G) 205 T) fun r J1 => r = .inl (nn (k + 1)) ∧ J1 = bup (bup I 204 G) 205 (upd T k (nn (geV v E k))) := by
        unfold B_Riddles_fewestGifts_34 K_Riddles_fewestGifts_47 K_Riddles_fewestGifts_95 geV
        by_cases z : sS v k 6 = 0
        · simp only [ok_bn, ok_ite, if_pos e3, ok_eq t, if_pos z, ok_sr, ok_rt, e1, e2, true_and, bup_eq, bup_bup, nn_s]
          rw [if_pos ⟨z, by omega⟩]
        · simp only [ok_bn, ok_ite, if_pos e3, ok_eq t, if_neg z, ok_sr, ok_rt, e1, e2, true_and, bup_eq, bup_bup, nn_s, Int32.add_zero]
          rw [if_neg (fun q => z q.1)]
          trivial
      obtain ⟨r, J1, q, rfl, rfl⟩ := hO
      exact q)
    (fun T => by
      have e3 : ¬ nn 64 < 64 := by decide
      have hO : Ok (B_Riddles_fewestGifts_34 (nn 64)) (bup (bup I 204 G) 205 T) fun r J1 => r = .inr (6 - T 63) ∧ J1 = bup (bup I 204 G) 205 T := by
        unfold B_Riddles_fewestGifts_34
        have e1 : inR 63 64 = true := by decide
        have e2 : (63 : Int32).toNatClampNeg = 63 := by decide
        simp only [ok_bn, ok_ite, if_neg e3, ok_ld, ok_rt, e1, e2, true_and, bup_eq]
      obtain ⟨r, J1, q, rfl, rfl⟩ := hO
      exact q)
    (fun s hs => by rw [show s = 0 by omega, upd_eq])
  obtain ⟨T, E, h2, q1, q2, q3⟩ := hl
  refine ⟨G, T, E, ?_, q2 63 (by omega), q3⟩
  rw [← q1 63 (by omega)]
  unfold F_Riddles_fewestGifts K_Riddles_fewestGifts_2 K_Riddles_fewestGifts_25 K_Riddles_fewestGifts_34
  have hO : Ok (bn (lp B_Riddles_fewestGifts_2 FU 0) fun _ => bn (sr 64 205 0 0) fun _ => lp B_Riddles_fewestGifts_34 FU 1) I fun r J1 => r = 6 - T 63 ∧ J1 = bup (bup I 204 G) 205 T := by
    have e1 : inR 0 64 = true := by decide
    have e2 : (0 : Int32).toNatClampNeg = 0 := by decide
    have h2' : lp B_Riddles_fewestGifts_34 FU 1 (bup (bup I 204 G) 205 (upd ((bup I 204 G) 205) 0 0)) = some (6 - T 63, bup (bup I 204 G) 205 T) := h2
    simp only [ok_bn, ok_eq h1, ok_sr, e1, e2, true_and]
    rw [ok_eq h2']
    exact ⟨rfl, rfl⟩
  obtain ⟨r, J1, q, rfl, rfl⟩ := hO
  exact q
end SC21
