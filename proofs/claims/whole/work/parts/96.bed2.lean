/-! beds: the reference's table whole, and its first place -/
section BE96
theorem bt_row {J0 J : MI} {n b i : Nat} (hn : n ≤ 8) (hb : b ≤ 8) (hi : i < n) (h7 : J0 207 63 = nn b) (h : BT J0 n b (i + 1) J) : Ok (K_R_findsBedded_44 (nn i) 0) J fun r K => r = .inl (nn i + (-1 : Int32)) ∧ BT J0 n b i K := by
  have p2 : 2 ^ b ≤ 256 := by
    have : (2 : Nat) ^ b ≤ 2 ^ 8 := Nat.pow_le_pow_right (by decide) hb
    exact this
  unfold K_R_findsBedded_44 K_R_findsBedded_153
  rw [ok_bn]
  refine ok_mono (Q := fun _ K => BT J0 n b i K) ?_ fun _ K q => by rw [ok_rt]; exact ⟨rfl, q⟩
  refine ok_lp (fun S x K => x = nn S ∧ BT J0 n b (i + 1) K ∧ ∀ R, R < S → K 247 (256 * i + R) = nn (mx (alB J0 b) b (n - i) i R)) (2 ^ b) (fun S x K hS hP => ?_) (fun x K hP => ?_) FU 0 J (by rw [FU_eq]; omega) ⟨rfl, h, fun R hR => absurd hR (by omega)⟩
  · obtain ⟨rfl, hB, hR⟩ := hP
    have e7 : K 207 63 = nn b := by rw [hB.1 207 (by decide)]; exact h7
    have g1 : nn S < nn (2 ^ b) := (nn_lt (by omega) (by omega)).mpr hS
    have ei : (256 : Int32) * nn (i + 1) + nn S = nn (256 * (i + 1) + S) := (congrArg (fun x => x + nn S) (nn_mul 256 (i + 1))).trans (nn_add _ _)
    have ir : inR (nn (256 * (i + 1) + S)) 2304 = true := inR_nn (by omega) (by omega)
    have it : (nn (256 * (i + 1) + S)).toNatClampNeg = 256 * (i + 1) + S := nn_nat (by omega)
    have ev := hB.2 (i + 1) S (Nat.le_refl _) (by omega) hS
    obtain ⟨e, q1, q2⟩ := bt_cell hn hb hi hS h7 hB
    have ej : (256 : Int32) * nn i + nn S = nn (256 * i + S) := (congrArg (fun x => x + nn S) (nn_mul 256 i)).trans (nn_add _ _)
    have jr : inR (nn (256 * i + S)) 2304 = true := inR_nn (by omega) (by omega)
    have jt : (nn (256 * i + S)).toNatClampNeg = 256 * i + S := nn_nat (by omega)
    unfold B_R_findsBedded_44 K_R_findsBedded_72 K_R_findsBedded_134
    simp only [ok_bn, ok_rd, e7, shl_nn (show b < 31 by omega), ok_ite, if_pos g1, nn_s, ei, ok_ld, ir, it, ev, ok_eq q1, ej, ok_sr, jr, jt, ok_rt, true_and]
    refine ⟨⟨fun a ha => ?_, fun r R h1 h2 h3 => ?_⟩, fun R hR2 => ?_⟩
    · rw [bup_ne _ _ ha]; exact hB.1 a ha
    · rw [bup_eq, upd_ne _ _ (by omega)]; exact hB.2 r R h1 h2 h3
    · rw [bup_eq]
      by_cases e2 : R = S
      · subst e2; rw [upd_eq, q2]
      · rw [upd_ne _ _ (by omega)]; exact hR R (by omega)
  · obtain ⟨rfl, hB, hR⟩ := hP
    have e7 : K 207 63 = nn b := by rw [hB.1 207 (by decide)]; exact h7
    have g1 : ¬ nn (2 ^ b) < nn (2 ^ b) := fun q => by have := (nn_lt (by omega) (by omega)).mp q; omega
    unfold B_R_findsBedded_44
    simp only [ok_bn, ok_rd, e7, shl_nn (show b < 31 by omega), ok_ite, if_neg g1, ok_rt]
    refine ⟨hB.1, fun r R h1 h2 h3 => ?_⟩
    by_cases e2 : r = i
    · subst e2; exact hR R h3
    · exact hB.2 r R (by omega) h2 h3
theorem bt_all {J0 : MI} {n b : Nat} (hn : n ≤ 8) (hb : b ≤ 8) (h6 : J0 207 61 = nn n) (h7 : J0 207 63 = nn b) : Ok F_R_findsBedded J0 fun _ K => BT J0 n b 0 K := by
  have p2 : 2 ^ b ≤ 256 := by
    have : (2 : Nat) ^ b ≤ 2 ^ 8 := Nat.pow_le_pow_right (by decide) hb
    exact this
  unfold F_R_findsBedded K_R_findsBedded_2 K_R_findsBedded_31 K_R_findsBedded_38
  rw [ok_bn]
  refine ok_mono (Q := fun _ K => BT J0 n b n K) ?_ fun _ K q => ?_
  · refine ok_lp (fun k x K => x = nn k ∧ (∀ a, a ≠ 247 → K a = J0 a) ∧ ∀ R, R < k → K 247 (256 * n + R) = 0) 256 (fun k x K hk hP => ?_) (fun x K hP => ?_) FU 0 J0 (by rw [FU_eq]; omega) ⟨rfl, fun _ _ => rfl, fun R hR => absurd hR (by omega)⟩
    · obtain ⟨rfl, hB, hR⟩ := hP
      have e6 : K 207 61 = nn n := by rw [hB 207 (by decide)]; exact h6
      have g1 : nn k < 256 := (nn_lt (k := 256) (by omega) (by omega)).mpr hk
      have ej : (256 : Int32) * nn n + nn k = nn (256 * n + k) := (congrArg (fun x => x + nn k) (nn_mul 256 n)).trans (nn_add _ _)
      have jr : inR (nn (256 * n + k)) 2304 = true := inR_nn (by omega) (by omega)
      have jt : (nn (256 * n + k)).toNatClampNeg = 256 * n + k := nn_nat (by omega)
      unfold B_R_findsBedded_2
      simp only [ok_bn, ok_rd, e6, ok_ite, if_pos g1, ej, ok_sr, jr, jt, ok_rt, nn_s, true_and]
      refine ⟨fun a ha => ?_, fun R hR2 => ?_⟩
      · rw [bup_ne _ _ ha]; exact hB a ha
      · rw [bup_eq]
        by_cases e2 : R = k
        · subst e2; rw [upd_eq]
        · rw [upd_ne _ _ (by omega)]; exact hR R (by omega)
    · obtain ⟨rfl, hB, hR⟩ := hP
      have g1 : ¬ nn 256 < 256 := by decide
      unfold B_R_findsBedded_2
      simp only [ok_ite, if_neg g1, ok_rt]
      refine ⟨hB, fun r R h1 h2 h3 => ?_⟩
      have e2 : r = n := by omega
      subst e2
      rw [hR R (by omega), Nat.sub_self]
      rfl
  · have e6 : K 207 61 = nn n := by rw [q.1 207 (by decide)]; exact h6
    rw [ok_bn, ok_rd, e6]
    refine ok_lp (fun k x K => (k < n → x = nn (n - 1 - k)) ∧ (k = n → x = -1) ∧ BT J0 n b (n - k) K) n (fun k x K hk hP => ?_) (fun x K hP => ?_) FU (nn n - 1) K (by rw [FU_eq]; omega) ⟨fun h => ?_, fun h => ?_, q⟩
    · obtain ⟨hx, -, hB⟩ := hP
      have hx := hx hk
      subst hx
      have g1 : ¬ nn (n - 1 - k) < 0 := nn_neg (by omega)
      have hB2 : BT J0 n b (n - 1 - k + 1) K := by rw [show n - 1 - k + 1 = n - k by omega]; exact hB
      unfold B_R_findsBedded_38
      rw [ok_ite, if_neg g1]
      refine ok_mono (bt_row hn hb (by omega) h7 hB2) fun r K2 q2 => ?_
      obtain ⟨rfl, q2⟩ := q2
      refine ⟨fun h => ?_, fun h => ?_, ?_⟩
      · rw [pm1 (by omega)]; congr 1
      · rw [show n - 1 - k = 0 by omega]; decide
      · rw [show n - (k + 1) = n - 1 - k by omega]; exact q2
    · obtain ⟨-, hx, hB⟩ := hP
      have hx := hx rfl
      subst hx
      unfold B_R_findsBedded_38
      rw [ok_ite, if_pos (by decide), ok_rt]
      rw [Nat.sub_self] at hB
      exact hB
    · exact nn_sub (j := n) (k := 1) (by omega)
    · subst h; decide
def LT (c : Nat → Bool) (p : Nat) : Prop := (p < 10 ∧ c p = true ∧ ∀ j, j < p → c j = false) ∨ (p = 10 ∧ ∀ j, j < 10 → c j = false)
def lsT (c : Nat → Bool) : Nat → Nat
  | 0 => 10
  | m + 1 => if lsT c m < 10 then lsT c m else if c m = true then m else 10
theorem lsT_is (c : Nat → Bool) : ∀ m, m ≤ 10 → (lsT c m < m ∧ c (lsT c m) = true ∧ ∀ j, j < lsT c m → c j = false) ∨ (lsT c m = 10 ∧ ∀ j, j < m → c j = false) := by
  intro m
  induction m with
  | zero => intro _; exact Or.inr ⟨rfl, fun j hj => absurd hj (by omega)⟩
  | succ m ih =>
    intro hm
    unfold lsT
    rcases ih (by omega) with ⟨h1, h2, h3⟩ | ⟨h1, h2⟩
    · rw [if_pos (by omega)]; exact Or.inl ⟨by omega, h2, h3⟩
    · rw [if_neg (by omega)]
      cases hc : c m with
      | true => rw [if_pos rfl]; exact Or.inl ⟨by omega, hc, h2⟩
      | false =>
        rw [if_neg (by decide)]
        refine Or.inr ⟨rfl, fun j hj => ?_⟩
        by_cases e : j = m
        · subst e; exact hc
        · exact h2 j (by omega)
theorem lsT_LT (c : Nat → Bool) : LT c (lsT c 10) := by
  rcases lsT_is c 10 (Nat.le_refl _) with h | h
  · exact Or.inl h
  · exact Or.inr h
theorem LT_one {c : Nat → Bool} {p q : Nat} (h1 : LT c p) (h2 : LT c q) : p = q := by
  rcases h1 with ⟨a1, a2, a3⟩ | ⟨a1, a2⟩ <;> rcases h2 with ⟨b1, b2, b3⟩ | ⟨b1, b2⟩
  · rcases Nat.lt_trichotomy p q with h | h | h
    · rw [b3 p h] at a2; cases a2
    · exact h
    · rw [a3 q h] at b2; cases b2
  · rw [b2 p a1] at a2; cases a2
  · rw [a2 q b1] at b2; cases b2
  · rw [a1, b1]
/-- which bed is the first that keeps the number -/
def ccB (al : Nat → Nat → Bool) (b n i S y : Nat) : Bool := (al i y && !S.testBit y) && decide (1 + mx al b (n - (i + 1)) (i + 1) (S ||| 2 ^ y) = mx al b (n - i) i S)
def nxS (al : Nat → Nat → Bool) (b n i S : Nat) : Nat := if lsT (ccB al b n i S) 10 < 10 then S ||| 2 ^ lsT (ccB al b n i S) 10 else S
def sqS (al : Nat → Nat → Bool) (b n : Nat) : Nat → Nat
  | 0 => 0
  | k + 1 => nxS al b n k (sqS al b n k)
theorem nx_lt {al : Nat → Nat → Bool} {b n i S : Nat} (hal : ∀ l j, al l j = true → j < b) (hS : S < 2 ^ b) : nxS al b n i S < 2 ^ b := by
  unfold nxS
  by_cases h : lsT (ccB al b n i S) 10 < 10
  · rw [if_pos h]
    rcases lsT_LT (ccB al b n i S) with ⟨h1, h2, -⟩ | ⟨h1, -⟩
    · have h3 := hal i _ (and_mp (and_mp h2).1).1
      exact Nat.or_lt_two_pow hS (Nat.pow_lt_pow_right (by decide) h3)
    · omega
  · rw [if_neg h]; exact hS
theorem sq_lt {al : Nat → Nat → Bool} {b n : Nat} (hal : ∀ l j, al l j = true → j < b) : ∀ k, sqS al b n k < 2 ^ b := by
  intro k
  induction k with
  | zero => exact Nat.two_pow_pos b
  | succ k ih => exact nx_lt hal ih
theorem nx_mx {al : Nat → Nat → Bool} {b n i S : Nat} (hb : b ≤ 10) (hi : i < n) : (lsT (ccB al b n i S) 10 < 10 → 1 + mx al b (n - (i + 1)) (i + 1) (nxS al b n i S) = mx al b (n - i) i S) ∧ (¬ lsT (ccB al b n i S) 10 < 10 → mx al b (n - (i + 1)) (i + 1) (nxS al b n i S) = mx al b (n - i) i S) := by
  refine ⟨fun h => ?_, fun h => ?_⟩
  · rcases lsT_LT (ccB al b n i S) with ⟨h1, h2, -⟩ | ⟨h1, -⟩
    · have q := of_decide_eq_true (and_mp h2).2
      unfold nxS
      rw [if_pos h]; exact q
    · omega
  · rcases lsT_LT (ccB al b n i S) with ⟨h1, -⟩ | ⟨-, h2⟩
    · exact absurd h1 h
    · unfold nxS
      rw [if_neg h]
      have e : mx al b (n - i) i S = mxJ al (fun R => mx al b (n - (i + 1)) (i + 1) R) i S (mx al b (n - (i + 1)) (i + 1) S) b := by
        rw [show n - i = (n - (i + 1)) + 1 by omega]; rfl
      rcases mxJ_at (al := al) (f := fun R => mx al b (n - (i + 1)) (i + 1) R) (i := i) (S := S) (m := mx al b (n - (i + 1)) (i + 1) S) b with q | ⟨l, l1, l2, l3⟩
      · rw [e, q]
      · have q := h2 l (by omega)
        unfold ccB at q
        rw [l2, e, decide_eq_true l3] at q
        cases q
end BE96
