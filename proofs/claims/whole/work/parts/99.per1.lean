/-! persons: ways, and who can follow whom -/
section PE99
theorem orF_nn {B : Nat → Int32} {s x : Nat} (hB : ∀ k, k < 10 → ∃ m, m < 1024 ∧ B k = nn m) (hx : x < 1024) : ∀ n, n ≤ 10 → ∃ m, m < 1024 ∧ orF B s (nn x) n = nn m := by
  intro n
  induction n with
  | zero => intro _; exact ⟨x, hx, rfl⟩
  | succ n ih =>
    intro hn
    obtain ⟨m, h1, h2⟩ := ih (by omega)
    unfold orF
    by_cases h : s.testBit n = true
    · rw [if_pos h, h2]
      obtain ⟨r, h3, h4⟩ := hB n (by omega)
      rw [h4, or_nn (by omega) (by omega)]
      exact ⟨m ||| r, Nat.or_lt_two_pow (n := 10) h1 h3, rfl⟩
    · rw [if_neg h]; exact ⟨m, h1, h2⟩
theorem orF_cg {B C : Nat → Int32} {s : Nat} {x : Int32} : ∀ n, n ≤ 10 → (∀ k, k < 10 → B k = C k) → orF B s x n = orF C s x n := by
  intro n
  induction n with
  | zero => intro _ _; rfl
  | succ n ih =>
    intro hn h
    unfold orF
    rw [ih (by omega) h, h n (by omega)]
theorem round_R {J : MI} {s : Nat} {a b : Int32} (hs : s < 1024) : lp (B_R_wayOf_34 a (nn s) b) FU (nn s, 0) J = some (orF (J 228) s (nn s) 10, J) := by
  refine lp_val (body := B_R_wayOf_34 a (nn s) b) (fun k => (orF (J 228) s (nn s) k, nn k)) 10 (fun k hk => ?_) rfl FU (by rw [FU_eq]; decide)
  unfold B_R_wayOf_34
  dsimp only
  rw [ite_ap, if_pos (show nn k < 10 from (nn_lt (j := k) (k := 10) (by omega) (by decide)).mpr hk), has_nn (by omega) (by omega), bn_rt, ite_ap, nn_s]
  conv => rhs; unfold orF
  by_cases h : s.testBit k = true
  · simp only [if_pos h]
    rw [if_neg one_ne, bn_ld _ _ (inR_nn (by omega) (by omega)), nn_nat (by omega)]
    rfl
  · simp only [if_neg h]
    rw [if_pos trivial]
    rfl
theorem way_AR {I J : MI} {x y : Nat} (hx : x < 10) (hy : y < 10) (hB : ∀ s, s < 10 → I 191 s = J 228 s) (hm : ∀ s, s < 10 → ∃ m, m < 1024 ∧ I 191 s = nn m) : ∃ a b, F_Port_minutesOnMap (nn x) (nn y) I = some (a, I) ∧ F_R_wayOf (nn x) (nn y) J = some (b, J) ∧ ((a = b ∧ ∃ m, m ≤ 45 ∧ a = nn m) ∨ (a = -1 ∧ b = 100000000)) := by
  unfold F_Port_minutesOnMap K_Port_minutesOnMap_7 F_R_wayOf K_R_wayOf_7
  have px : 2 ^ x < 1024 := by
    have : (2 : Nat) ^ x < 2 ^ 10 := Nat.pow_lt_pow_right (by decide) hx
    exact this
  have key := lpN (b1 := B_Port_minutesOnMap_7 (nn y)) (b2 := B_R_wayOf_7 (nn y)) (Q := fun a I1 b J1 => I1 = I ∧ J1 = J ∧ ((a = b ∧ ∃ m, m ≤ 45 ∧ a = nn m) ∨ (a = -1 ∧ b = 100000000))) 10 (fun k p I1 q J1 => I1 = I ∧ J1 = J ∧ p = q ∧ ∃ m, m < 1024 ∧ p = (nn m, nn k)) (fun k p I1 q J1 hk hP => by
    obtain ⟨rfl, rfl, rfl, m, hm2, rfl⟩ := hP
    have gk : nn k < 10 := (nn_lt (k := 10) (by omega) (by omega)).mpr hk
    obtain ⟨r, r1, r2⟩ := orF_nn (B := I1 191) (s := m) (x := m) hm hm2 10 (Nat.le_refl _)
    have e1 : nn m ||| orF (I1 191) m 0 10 = nn r := by rw [← orF_x, r2]
    have e2 : orF (J1 228) m (nn m) 10 = nn r := by rw [← orF_cg (B := I1 191) 10 (Nat.le_refl _) hB, r2]
    have rR := round_R (J := J1) (a := nn y) (b := nn k) hm2
    rw [e2] at rR
    have k5 : nn k * 5 = nn (5 * k) := by rw [Int32.mul_comm]; exact nn_mul 5 k
    have k5' : (5 : Int32) * nn k = nn (5 * k) := nn_mul 5 k
    unfold B_Port_minutesOnMap_7 B_R_wayOf_7 K_R_wayOf_34 K_R_wayOf_69
    simp only [ok_ite, if_pos gk, bit_nn (show m < 2 ^ 31 by omega) (show y < 31 by omega), has_nn (show m < 2 ^ 31 by omega) (show y < 31 by omega), ok_bn, ok_rt, ok_eq (beside_A (I := I1) hm2), ok_eq rR, e1, nn_s, k5, k5']
    by_cases h : m.testBit y = true
    · simp (decide := true) only [if_pos h, if_false]
      exact sd_r.mpr ⟨rfl, rfl, Or.inl ⟨rfl, 5 * k, by omega, rfl⟩⟩
    · simp (decide := true) only [if_neg h, if_true]
      exact sd_l.mpr ⟨rfl, rfl, rfl, r, r1, rfl⟩) (fun p I1 q J1 hP => by
    obtain ⟨rfl, rfl, rfl, m, hm2, rfl⟩ := hP
    have gk : ¬ nn 10 < 10 := by decide
    unfold B_Port_minutesOnMap_7 B_R_wayOf_7
    simp only [ok_ite, if_neg gk, ok_rt]
    exact sd_r.mpr ⟨rfl, rfl, Or.inr ⟨rfl, rfl⟩⟩) (by decide) (x := ((1 : Int32) <<< (nn x &&& 31), 0)) (I := I) (y := ((1 : Int32) <<< (nn x &&& 31), 0)) (J := J) ⟨rfl, rfl, rfl, 2 ^ x, px, by rw [shl_nn (by omega)]; rfl⟩
  obtain ⟨a, I1, q1, b, J1, q2, rfl, rfl, q3⟩ := key
  exact ⟨a, b, q1, q2, q3⟩
/-- can the one who was seen at x come to y -/
def canB (J : MI) (x y : Nat) : Bool := match F_R_canCome (nn x) (nn y) J with
  | some (v, _) => decide (v = 1)
  | none => false
theorem can_AR {I J : MI} {n x y : Nat} (hn : n ≤ 10) (hx : x < n) (hy : y < n) (w27 : I 27 0 = nn 2) (h27 : I 27 3 = nn n) (hs : ∀ i, i < n → (∃ m, m < 100 ∧ I 28 (2 * i) = nn m ∧ J 231 i = nn m) ∧ ∃ s, s < 10 ∧ I 28 (2 * i + 1) = nn s ∧ J 232 i = nn s) (hB : ∀ s, s < 10 → I 191 s = J 228 s) (hm : ∀ s, s < 10 → ∃ m, m < 1024 ∧ I 191 s = nn m) : ∃ v, (v = 0 ∨ v = 1) ∧ F_Port_canFollow (nn x) (nn y) I = some (v, I) ∧ F_R_canCome (nn x) (nn y) J = some (v, J) := by
  have hsz : siz shT (27 + 1) = 20 := by decide +kernel
  have tA : ∀ i k, i < n → k < 2 → F_Table_at 27 (nn i) (nn k) I = some (I 28 (2 * i + k), I) := fun i k hi hk => by
    have q := at_ok (I := I) (t := 27) (w := 2) (n := n) (i := i) (k := k) w27 h27 hi hk (by rw [hsz]; omega) (by omega) (by decide) (by omega)
    rw [q, Nat.mul_comm]
  obtain ⟨⟨mx, mx1, mx2, mx3⟩, sx, sx1, sx2, sx3⟩ := hs x hx
  obtain ⟨⟨my, my1, my2, my3⟩, sy, sy1, sy2, sy3⟩ := hs y hy
  have a1 : F_Table_at 27 (nn y) 0 I = some (nn my, I) := (tA y 0 hy (by decide)).trans (by rw [show I 28 (2 * y + 0) = nn my from my2])
  have a2 : F_Table_at 27 (nn x) 0 I = some (nn mx, I) := (tA x 0 hx (by decide)).trans (by rw [show I 28 (2 * x + 0) = nn mx from mx2])
  have a3 : F_Table_at 27 (nn x) 1 I = some (nn sx, I) := (tA x 1 hx (by decide)).trans (by rw [sx2])
  have a4 : F_Table_at 27 (nn y) 1 I = some (nn sy, I) := (tA y 1 hy (by decide)).trans (by rw [sy2])
  have ix : inR (nn x) 10 = true := inR_nn (by omega) (by omega)
  have tx : (nn x).toNatClampNeg = x := nn_nat (by omega)
  have iy : inR (nn y) 10 = true := inR_nn (by omega) (by omega)
  have ty : (nn y).toNatClampNeg = y := nn_nat (by omega)
  obtain ⟨a, b, w1, w2, w3⟩ := way_AR (I := I) (J := J) sx1 sy1 hB hm
  have kA : ∀ d, d < 100 → ∃ v, (v = 0 ∨ v = 1) ∧ K_Port_canFollow_40 (nn x) (nn y) (nn d) I = some (v, I) ∧ K_R_canCome_34 (nn x) (nn y) (nn d) J = some (v, J) := fun d hd => by
    have two : Ok (K_Port_canFollow_40 (nn x) (nn y) (nn d)) I fun v I1 => I1 = I ∧ (v = 0 ∨ v = 1) ∧ Ok (K_R_canCome_34 (nn x) (nn y) (nn d)) J fun u J1 => J1 = J ∧ u = v := by
      unfold K_Port_canFollow_40 K_R_canCome_34
      rcases w3 with ⟨rfl, m, hm2, rfl⟩ | ⟨rfl, rfl⟩
      · have n1 : ¬ nn m = -1 := fun q => by
          have h1 : nn m < 0 := by rw [q]; decide
          exact nn_neg (by omega) h1
        by_cases hq : nn d < nn m
        · simp (decide := true) only [ok_bn, ok_eq a3, ok_eq a4, ok_eq w1, ok_ite, if_neg n1, if_pos hq, ok_gdZ, ok_rt, ok_ld, ix, tx, iy, ty, sx3, sy3, ok_eq w2, true_or, true_and, and_self]
        · simp (decide := true) only [ok_bn, ok_eq a3, ok_eq a4, ok_eq w1, ok_ite, if_neg n1, if_neg hq, ok_gdZ, ok_rt, ok_ld, ix, tx, iy, ty, sx3, sy3, ok_eq w2, or_true, true_and, and_self]
      · have hq : nn d < 100000000 := (nn_lt (k := 100000000) (by omega) (by decide)).mpr (by omega)
        simp (decide := true) only [ok_bn, ok_eq a3, ok_eq a4, ok_eq w1, ok_ite, if_true, if_pos hq, ok_gdZ, ok_rt, ok_ld, ix, tx, iy, ty, sx3, sy3, ok_eq w2, true_or, true_and, and_self]
    obtain ⟨v, I1, r1, rfl, r2, u, J1, r3, rfl, rfl⟩ := two
    exact ⟨u, r2, r1, r3⟩
  have two : Ok (F_Port_canFollow (nn x) (nn y)) I fun v I1 => I1 = I ∧ (v = 0 ∨ v = 1) ∧ Ok (F_R_canCome (nn x) (nn y)) J fun u J1 => J1 = J ∧ u = v := by
    unfold F_Port_canFollow F_R_canCome
    simp only [ok_bn, ok_eq a1, ok_eq a2, ok_ld, ix, tx, iy, ty, mx3, my3, true_and, ok_ite]
    by_cases hlt : my < mx
    · have neg : nn my - nn mx < 0 := by
        rw [Int32.lt_iff_toInt_lt, Int32.toInt_sub, nn_toInt (by omega), nn_toInt (by omega)]
        have e0 : (0 : Int32).toInt = 0 := rfl
        rw [e0, Int.bmod_eq_of_le (by omega) (by omega)]
        omega
      have nxy : ¬ nn x = nn y := fun q => by
        have e := (nn_inj (by omega) (by omega)).mp q
        subst e
        have e2 := (nn_inj (by omega) (by omega)).mp (mx3.symm.trans my3)
        omega
      simp (decide := true) only [if_pos neg, if_neg nxy, ok_gdZ, ok_rt, true_or, true_and, and_self]
    · have ed : nn my - nn mx = nn (my - mx) := nn_sub (by omega)
      have nneg : ¬ nn (my - mx) < 0 := nn_neg (by omega)
      obtain ⟨v, v1, v2, v3⟩ := kA (my - mx) (by omega)
      rw [ed]
      by_cases hz : my - mx = 0
      · have z0 : nn (my - mx) = 0 := by rw [hz]; rfl
        by_cases hxy : x = y
        · subst hxy
          have g : ¬ nn x < nn x := fun q => by have := (nn_lt (by omega) (by omega)).mp q; omega
          simp (decide := true) only [if_neg nneg, if_pos z0, if_neg g, if_true, ok_gdZ, ok_rt, true_or, true_and, and_self]
        · have nxy : ¬ nn x = nn y := fun q => hxy ((nn_inj (by omega) (by omega)).mp q)
          by_cases hl : x < y
          · have g1 : nn x < nn y := (nn_lt (by omega) (by omega)).mpr hl
            have g2 : ¬ nn y < nn x := fun q => by have := (nn_lt (by omega) (by omega)).mp q; omega
            simp only [if_neg nneg, if_pos z0, if_pos g1, if_neg g2, if_neg nxy, ok_eq v2, ok_eq v3, and_self, and_true, true_and]
            exact v1
          · have g1 : ¬ nn x < nn y := fun q => hl ((nn_lt (by omega) (by omega)).mp q)
            have g2 : nn y < nn x := (nn_lt (by omega) (by omega)).mpr (by omega)
            simp (decide := true) only [if_neg nneg, if_pos z0, if_neg g1, if_pos g2, if_neg nxy, ok_gdZ, ok_rt, true_or, true_and, and_self]
      · have z0 : ¬ nn (my - mx) = 0 := nn_ne (k := 0) (by omega) (by omega) hz
        have nxy : ¬ nn x = nn y := fun q => by
          have e := (nn_inj (by omega) (by omega)).mp q
          subst e
          have e2 := (nn_inj (by omega) (by omega)).mp (mx3.symm.trans my3)
          omega
        simp only [if_neg nneg, if_neg z0, if_neg nxy, ok_eq v2, ok_eq v3, and_self, and_true, true_and]
        exact v1
  obtain ⟨v, I1, r1, rfl, r2, u, J1, r3, rfl, rfl⟩ := two
  exact ⟨u, r2, r1, r3⟩
end PE99
