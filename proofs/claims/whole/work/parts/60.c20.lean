/-! settled: the two tables of sets -/
section SC20
def geV (v : Nat → Int32) (E : Nat → Nat) (m : Nat) : Nat := bM E m 6 + if sS v m 6 = 0 ∧ m ≠ 0 then 1 else 0
theorem bM_congr {E F : Nat → Nat} {m : Nat} : ∀ {k : Nat}, (∀ i, i < k → m.testBit i = true → E (m ^^^ 2 ^ i) = F (m ^^^ 2 ^ i)) → bM E m k = bM F m k := by
  intro k
  induction k with
  | zero => intro _; rfl
  | succ k ih =>
    intro h
    unfold bM
    rw [ih fun i hi => h i (by omega)]
    cases hb : m.testBit k
    · rfl
    · rw [h k (by omega) hb]
theorem xor_lt {m k : Nat} (hm : m < 64) (hk : k < 6) (hb : m.testBit k = true) : m ^^^ 2 ^ k < m := (z_at hm (Z := 0) (by decide) hk hb).1
theorem bM_up {E : Nat → Nat} {m k : Nat} (hm : m < 64) (hk : k ≤ 6) (h : ∀ s, s < m → E s ≤ s) : bM E m k ≤ m - 1 := bM_le.mpr fun i hi hb => by
  have := xor_lt hm (by omega) hb
  have := h _ this
  omega
theorem geV_up {v : Nat → Int32} {E : Nat → Nat} {m : Nat} (hm : m < 64) (h : ∀ s, s < m → E s ≤ s) : geV v E m ≤ m := by
  have h1 := bM_up (k := 6) hm (by omega) h
  unfold geV
  by_cases m0 : m = 0
  · subst m0; rw [bM_0, if_neg (fun q => q.2 rfl)]; omega
  · split <;> omega
theorem geV_congr {v : Nat → Int32} {E F : Nat → Nat} {m : Nat} (hm : m < 64) (h : ∀ s, s < m → E s = F s) : geV v E m = geV v F m := by
  unfold geV
  rw [bM_congr fun i hi hb => h _ (xor_lt hm hi hb)]
theorem ge_lp {body : Int32 → M (Int32 ⊕ Int32)} {I : MI} {a Z k0 : Nat} {v : Nat → Int32} {f : (Nat → Int32) → Int32} {T0 : Nat → Int32} (h0 : k0 ≤ 1) (hs : ∀ k T E, k0 ≤ k → k < 64 → (∀ s, s < k → T s = nn (E s)) → (∀ s, s < k → E s ≤ s) → body (nn k) (bup I a T) = some (.inl (nn (k + 1)), bup I a (upd T k (nn (geV v E (k &&& Z)))))) (he : ∀ T, body (nn 64) (bup I a T) = some (.inr (f T), bup I a T)) (hT : ∀ s, s < k0 → T0 s = 0) : ∃ T E, lp body FU (nn k0) (bup I a T0) = some (f T, bup I a T) ∧ (∀ s, s < 64 → T s = nn (E s)) ∧ (∀ s, s < 64 → E s ≤ s) ∧ ∀ s, s < 64 → E s = geV v E (s &&& Z) := by
  have hl := ok_lp (body := body) (Q := fun x K => ∃ T E, x = f T ∧ K = bup I a T ∧ (∀ s, s < 64 → T s = nn (E s)) ∧ (∀ s, s < 64 → E s ≤ s) ∧ ∀ s, s < 64 → E s = geV v E (s &&& Z)) (fun k x K => x = nn (k0 + k) ∧ ∃ T E, K = bup I a T ∧ (∀ s, s < k0 + k → T s = nn (E s)) ∧ (∀ s, s < k0 + k → E s ≤ s) ∧ ∀ s, s < k0 + k → E s = geV v E (s &&& Z)) (64 - k0)
    (fun k x K hk hi => by
      obtain ⟨rfl, T, E, rfl, q1, q2, q3⟩ := hi
      rw [ok_eq (hs (k0 + k) T E (by omega) (by omega) q1 q2)]
      refine ⟨rfl, _, fun s => if s = k0 + k then geV v E ((k0 + k) &&& Z) else E s, rfl, fun s h => ?_, fun s h => ?_, fun s h => ?_⟩
      · by_cases hk2 : s = k0 + k
        · subst hk2; rw [upd_eq]; show _ = nn (if _ then _ else _); rw [if_pos rfl]
        · rw [upd_ne _ _ hk2]; show _ = nn (if _ then _ else _); rw [if_neg hk2]; exact q1 s (by omega)
      · show (if _ then _ else _) ≤ s
        have le : (k0 + k) &&& Z ≤ k0 + k := Nat.and_le_left
        by_cases hk2 : s = k0 + k
        · rw [if_pos hk2]
          have := geV_up (v := v) (E := E) (m := (k0 + k) &&& Z) (by omega) fun s hs => q2 s (by omega)
          omega
        · rw [if_neg hk2]; exact q2 s (by omega)
      · show (if _ then _ else _) = _
        have le : s &&& Z ≤ s := Nat.and_le_left
        have cg : geV v (fun s => if s = k0 + k then geV v E ((k0 + k) &&& Z) else E s) (s &&& Z) = geV v E (s &&& Z) := geV_congr (by omega) fun j hj => if_neg (by omega)
        rw [cg]
        by_cases hk2 : s = k0 + k
        · rw [if_pos hk2, hk2]
        · rw [if_neg hk2]; exact q3 s (by omega))
    (fun x K hi => by
      obtain ⟨rfl, T, E, rfl, q1, q2, q3⟩ := hi
      rw [show k0 + (64 - k0) = 64 by omega] at q1 q2 q3 ⊢
      rw [ok_eq (he T)]
      exact ⟨T, E, rfl, rfl, q1, q2, q3⟩) FU (nn k0) (bup I a T0) (by rw [FU_eq]; omega) ⟨rfl, T0, fun _ => 0, rfl, fun s h => hT s (by omega), fun s h => Nat.zero_le _, fun s h => by
        have : s = 0 := by omega
        subst this
        rw [Nat.zero_and]
        unfold geV
        rw [bM_0, if_neg (fun q => q.2 rfl)]⟩
  obtain ⟨x, K, h1, T, E, rfl, rfl, q⟩ := hl
  exact ⟨T, E, h1, q⟩
theorem nn_max {a b : Nat} (ha : a < 2 ^ 31) (hb : b < 2 ^ 31) : (if nn a < nn b then nn b else nn a) = nn (max a b) := by
  by_cases h : a < b
  · rw [if_pos ((nn_lt ha hb).mpr h), show max a b = b by omega]
  · rw [if_neg (fun q => h ((nn_lt ha hb).mp q)), show max a b = a by omega]
theorem xr_all : (List.range 64).all (fun m => (List.range 6).all fun k => decide (nn m ^^^ ((1 : Int32) <<< (nn k &&& 31)) = nn (m ^^^ 2 ^ k)) && (!m.testBit k || decide (nn m &&& (((1 : Int32) <<< (nn k &&& 31)) ^^^ (-1)) = nn (m ^^^ 2 ^ k)))) = true := by decide +kernel
theorem xr_at {m k : Nat} (hm : m < 64) (hk : k < 6) : nn m ^^^ ((1 : Int32) <<< (nn k &&& 31)) = nn (m ^^^ 2 ^ k) ∧ (m.testBit k = true → nn m &&& (((1 : Int32) <<< (nn k &&& 31)) ^^^ (-1)) = nn (m ^^^ 2 ^ k)) := by
  have h := List.all_eq_true.mp (List.all_eq_true.mp xr_all m (List.mem_range.mpr hm)) k (List.mem_range.mpr hk)
  obtain ⟨h1, h2⟩ := and_mp h
  refine ⟨of_decide_eq_true h1, fun hb => ?_⟩
  rw [hb] at h2
  exact of_decide_eq_true h2
theorem sS_s {v : Nat → Int32} {m k : Nat} : sS v m (k + 1) = if m.testBit k = true then sS v m k + v k else sS v m k := rfl
theorem bM_s {E : Nat → Nat} {m k : Nat} : bM E m (k + 1) = if m.testBit k = true then max (bM E m k) (E (m ^^^ 2 ^ k)) else bM E m k := rfl
theorem ge_A {K : MI} {v : Nat → Int32} {E : Nat → Nat} {m : Nat} (hm : m < 64) (hv : ∀ i, i < 6 → K 204 i = v i) (h1 : ∀ s, s < m → K 205 s = nn (E s)) (h2 : ∀ s, s < m → E s ≤ s) : lp (B_Riddles_fewestGifts_47 (nn m)) FU (0, 0, 0) K = some ((sS v m 6, nn (bM E m 6)), K) := by
  refine lp_val (body := B_Riddles_fewestGifts_47 (nn m)) (I := K) (fun j => (sS v m j, nn (bM E m j), nn j)) 6 (fun j hj => ?_) ?_ FU (by rw [FU_eq]; omega)
  · have e1 : inR (nn j) 6 = true := inR_nn hj (by omega)
    have e2 : (nn j).toNatClampNeg = j := nn_nat (by omega)
    have e3 : nn j < 6 := (nn_lt (k := 6) (by omega) (by omega)).mpr hj
    have hO : Ok (B_Riddles_fewestGifts_47 (nn m) (sS v m j, nn (bM E m j), nn j)) K fun r J1 => r = .inl (sS v m (j + 1), nn (bM E m (j + 1)), nn (j + 1)) ∧ J1 = K := by
      unfold B_Riddles_fewestGifts_47
      rw [sS_s, bM_s]
      by_cases hb : m.testBit j = true
      · have x1 := xor_lt hm hj hb
        have x2 := h2 _ x1
        have x3 := bM_up (k := j) hm (by omega) h2
        have e4 : inR (nn (m ^^^ 2 ^ j)) 64 = true := inR_nn (by omega) (by omega)
        have e5 : (nn (m ^^^ 2 ^ j)).toNatClampNeg = m ^^^ 2 ^ j := nn_nat (by omega)
        have e6 : ¬ (1 : Int32) = 0 := by decide
        simp only [ok_bn, ok_ld, ok_ite, ok_rt, if_pos e3, bit_nn (m := m) (b := j) (by omega) (by omega), if_pos hb, if_neg e6, e1, e2, e4, e5, (xr_at hm hj).1, true_and, hv j hj, h1 _ x1, nn_max (a := bM E m j) (b := E (m ^^^ 2 ^ j)) (by omega) (by omega), nn_s, and_self]
      · simp only [ok_ite, ok_rt, if_pos e3, bit_nn (m := m) (b := j) (by omega) (by omega), if_neg hb, if_true, nn_s]
        simp
    obtain ⟨r, J1, q1, rfl, rfl⟩ := hO
    exact q1
  · have e3 : ¬ nn 6 < 6 := by decide
    unfold B_Riddles_fewestGifts_47
    exact congrFun (if_neg e3) K
end SC20
