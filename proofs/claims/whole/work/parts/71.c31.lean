/-! masks of 18, and how many are set -/
section SC31
theorem ush_nn {m k : Nat} {s : Int32} (hm : m < 2 ^ 31) (hk : k < 32) (hs : (s.toUInt32 &&& Int32.toUInt32 31).toBitVec % 32 = BitVec.ofNat 32 k) : ush (nn m) s = nn (m >>> k) := by
  apply bv_inj
  have e1 : (ush (nn m) s).toBitVec = (nn m).toBitVec >>> ((s.toUInt32 &&& Int32.toUInt32 31).toBitVec % 32) := rfl
  have hle : m >>> k ≤ m := Nat.shiftRight_le m k
  rw [e1, hs]
  apply BitVec.eq_of_toNat_eq
  rw [BitVec.ushiftRight_eq', BitVec.toNat_ushiftRight, nn_bv, nn_bv, BitVec.toNat_ofNat, BitVec.toNat_ofNat, BitVec.toNat_ofNat, Nat.mod_eq_of_lt (a := m) (by omega), Nat.mod_eq_of_lt (a := k) (by omega), Nat.mod_eq_of_lt (by omega)]
def bcS1 (m : Nat) : Nat := m - ((m >>> 1) &&& 1431655765)
def bcS2 (a : Nat) : Nat := (a &&& 858993459) + ((a >>> 2) &&& 858993459)
def bcS3 (b : Nat) : Nat := (b + (b >>> 4)) &&& 252645135
def bcS4 (c : Nat) : Nat := c + (c >>> 8)
def bcS5 (d : Nat) : Nat := (d + (d >>> 16)) &&& 63
def bcQ (m : Nat) : Nat := bcS5 (bcS4 (bcS3 (bcS2 (bcS1 m))))
theorem bc_eq {m : Nat} (hm : m < 262144) : F_Integer_bitCount (nn m) = rt (nn (bcQ m)) := by
  have s1 : ∀ {m : Nat}, m < 2 ^ 31 → ush (nn m) 1 = nn (m >>> 1) := fun h => ush_nn h (by decide) (by decide)
  have s2 : ∀ {m : Nat}, m < 2 ^ 31 → ush (nn m) 2 = nn (m >>> 2) := fun h => ush_nn h (by decide) (by decide)
  have s4 : ∀ {m : Nat}, m < 2 ^ 31 → ush (nn m) 4 = nn (m >>> 4) := fun h => ush_nn h (by decide) (by decide)
  have s8 : ∀ {m : Nat}, m < 2 ^ 31 → ush (nn m) 8 = nn (m >>> 8) := fun h => ush_nn h (by decide) (by decide)
  have s16 : ∀ {m : Nat}, m < 2 ^ 31 → ush (nn m) 16 = nn (m >>> 16) := fun h => ush_nn h (by decide) (by decide)
  have l1 : m >>> 1 ≤ m := Nat.shiftRight_le m 1
  have l2 : (m >>> 1) &&& 1431655765 ≤ m >>> 1 := Nat.and_le_left
  have a1 : (ush (nn m) 1) &&& (1431655765 : Int32) = nn ((m >>> 1) &&& 1431655765) := by rw [s1 (by omega)]; exact and_nn (by omega) (by decide)
  have a2 : nn m - nn ((m >>> 1) &&& 1431655765) = nn (bcS1 m) := nn_sub (by omega)
  have l3 : bcS1 m ≤ m := Nat.sub_le _ _
  have l4 : bcS1 m >>> 2 ≤ bcS1 m := Nat.shiftRight_le _ 2
  have l5 : bcS1 m &&& 858993459 ≤ bcS1 m := Nat.and_le_left
  have l6 : (bcS1 m >>> 2) &&& 858993459 ≤ bcS1 m >>> 2 := Nat.and_le_left
  have a3 : nn (bcS1 m) &&& (858993459 : Int32) = nn (bcS1 m &&& 858993459) := and_nn (by omega) (by decide)
  have a4 : (ush (nn (bcS1 m)) 2) &&& (858993459 : Int32) = nn ((bcS1 m >>> 2) &&& 858993459) := by rw [s2 (by omega)]; exact and_nn (by omega) (by decide)
  have a5 : nn (bcS1 m &&& 858993459) + nn ((bcS1 m >>> 2) &&& 858993459) = nn (bcS2 (bcS1 m)) := nn_add _ _
  generalize hb : bcS2 (bcS1 m) = b at *
  have l7 : b < 1000000 := by rw [← hb]; unfold bcS2; omega
  have l8 : b >>> 4 ≤ b := Nat.shiftRight_le _ 4
  have a6 : ush (nn b) 4 = nn (b >>> 4) := s4 (by omega)
  have a7 : nn b + nn (b >>> 4) = nn (b + (b >>> 4)) := nn_add _ _
  have a8 : nn (b + (b >>> 4)) &&& (252645135 : Int32) = nn (bcS3 b) := and_nn (by omega) (by decide)
  have l9 : bcS3 b ≤ b + (b >>> 4) := Nat.and_le_left
  generalize hc : bcS3 b = c at *
  have l10 : c >>> 8 ≤ c := Nat.shiftRight_le _ 8
  have a9 : ush (nn c) 8 = nn (c >>> 8) := s8 (by omega)
  have a10 : nn c + nn (c >>> 8) = nn (bcS4 c) := nn_add _ _
  have l11 : bcS4 c = c + (c >>> 8) := rfl
  generalize hd : bcS4 c = d at *
  have l12 : d >>> 16 ≤ d := Nat.shiftRight_le _ 16
  have a11 : ush (nn d) 16 = nn (d >>> 16) := s16 (by omega)
  have a12 : nn d + nn (d >>> 16) = nn (d + (d >>> 16)) := nn_add _ _
  have a13 : nn (d + (d >>> 16)) &&& (63 : Int32) = nn (bcS5 d) := and_nn (by omega) (by decide)
  unfold F_Integer_bitCount bcQ
  rw [hb, hc, hd]
  simp only [a1, a2, a3, a4, a5, a6, a7, a8, a9, a10, a11, a12, a13]
def mkF (f : Nat → Bool) : Nat → Nat
  | 0 => 0
  | n + 1 => if f n = true then mkF f n + 2 ^ n else mkF f n
theorem sm8 {a r s b1 r1 : Nat} (hs : s ≤ 8) (ha : a < 2 ^ 8) (hb : b1 < 2 ^ (8 - s)) : ((2 ^ 8 * r + a) >>> s) &&& (2 ^ 8 * r1 + b1) = 2 ^ 8 * ((r >>> s) &&& r1) + ((a >>> s) &&& b1) := by
  have hM2 : b1 < 2 ^ 8 := Nat.lt_of_lt_of_le hb (Nat.pow_le_pow_right (by decide) (by omega))
  have hx : (a >>> s) &&& b1 < 2 ^ 8 := Nat.lt_of_le_of_lt Nat.and_le_right hM2
  refine Nat.eq_of_testBit_eq fun k => ?_
  rw [Nat.testBit_and, Nat.testBit_shiftRight, Nat.testBit_two_pow_mul_add r ha (s + k), Nat.testBit_two_pow_mul_add r1 hM2 k, Nat.testBit_two_pow_mul_add _ hx k]
  by_cases hk : k < 8
  · rw [if_pos hk, if_pos hk, Nat.testBit_and, Nat.testBit_shiftRight]
    by_cases h2 : s + k < 8
    · rw [if_pos h2]
    · have e : b1.testBit k = false := Nat.testBit_lt_two_pow (Nat.lt_of_lt_of_le hb (Nat.pow_le_pow_right (by decide) (by omega)))
      rw [e, Bool.and_false, Bool.and_false]
  · rw [if_neg hk, if_neg hk, if_neg (by omega : ¬ s + k < 8), Nat.testBit_and, Nat.testBit_shiftRight, show s + k - 8 = s + (k - 8) by omega]
theorem sm {a r s b1 r1 : Nat} (hs : s ≤ 8) (ha : a < 256) (hb : b1 < 2 ^ (8 - s)) : ((256 * r + a) >>> s) &&& (256 * r1 + b1) = 256 * ((r >>> s) &&& r1) + ((a >>> s) &&& b1) := sm8 hs ha hb
def by1 (a : Nat) : Nat := a - ((a >>> 1) &&& 85)
def by2 (a : Nat) : Nat := (a &&& 51) + ((a >>> 2) &&& 51)
def chk8 : Nat → Nat → Nat → Bool
  | 0, m, c => decide (by2 (by1 m) % 16 ≤ 4 ∧ by2 (by1 m) / 16 ≤ 4 ∧ by2 (by1 m) % 16 + by2 (by1 m) / 16 = c)
  | n + 1, m, c => chk8 n m c && chk8 n (m + 2 ^ n) (c + 1)
theorem chk8_all : chk8 8 0 0 = true := by decide +kernel
theorem chk8_use (f : Nat → Bool) : ∀ (n m c : Nat), chk8 n m c = true → by2 (by1 (m + mkF f n)) % 16 ≤ 4 ∧ by2 (by1 (m + mkF f n)) / 16 ≤ 4 ∧ by2 (by1 (m + mkF f n)) % 16 + by2 (by1 (m + mkF f n)) / 16 = c + cntN f n := by
  intro n
  induction n with
  | zero => intro m c h; exact of_decide_eq_true h
  | succ n ih =>
    intro m c h
    obtain ⟨h1, h2⟩ := and_mp (show (chk8 n m c && chk8 n (m + 2 ^ n) (c + 1)) = true from h)
    unfold mkF cntN
    by_cases hf : f n = true
    · rw [if_pos hf, if_pos hf, show m + (mkF f n + 2 ^ n) = m + 2 ^ n + mkF f n by rw [Nat.add_comm (mkF f n), Nat.add_assoc]]
      have q := ih _ _ h2
      rw [show c + (cntN f n + 1) = c + 1 + cntN f n by omega]
      exact q
    · rw [if_neg hf, if_neg hf]
      exact ih _ _ h1
def tlB (l1 u1 l2 u2 c : Nat) : Bool := Nat.beq (bcS5 (bcS4 (bcS3 (256 * (256 * c + (16 * u2 + l2)) + (16 * u1 + l1))))) (l1 + u1 + (l2 + u2) + c)
theorem tl_all : (List.range 5).all (fun l1 => (List.range 5).all fun u1 => (List.range 5).all fun l2 => (List.range 5).all fun u2 => (List.range 3).all fun c => tlB l1 u1 l2 u2 c) = true := by decide +kernel
theorem top_all : (List.range 4).all (fun c => decide ((c - ((c >>> 1) &&& 21845)) < 4 ∧ ((c - ((c >>> 1) &&& 21845)) &&& 13107) + (((c - ((c >>> 1) &&& 21845)) >>> 2) &&& 13107) = c % 2 + c / 2)) = true := by decide +kernel
theorem bc_sum {a b c : Nat} (ha : a < 256) (hb : b < 256) (hc : c < 4) (qa : by2 (by1 a) % 16 ≤ 4 ∧ by2 (by1 a) / 16 ≤ 4) (qb : by2 (by1 b) % 16 ≤ 4 ∧ by2 (by1 b) / 16 ≤ 4) : bcQ (256 * (256 * c + b) + a) = by2 (by1 a) % 16 + by2 (by1 a) / 16 + (by2 (by1 b) % 16 + by2 (by1 b) / 16) + (c % 2 + c / 2) := by
  obtain ⟨c1, c2⟩ := of_decide_eq_true (List.all_eq_true.mp top_all c (List.mem_range.mpr hc))
  have x1 : ((256 * (256 * c + b) + a) >>> 1) &&& (256 * (256 * 21845 + 85) + 85) = 256 * (256 * ((c >>> 1) &&& 21845) + ((b >>> 1) &&& 85)) + ((a >>> 1) &&& 85) := by
    rw [sm (by decide) ha (by decide), sm (by decide) hb (by decide)]
  have xa : (a >>> 1) &&& 85 ≤ a := Nat.le_trans Nat.and_le_left (Nat.shiftRight_le _ _)
  have xb : (b >>> 1) &&& 85 ≤ b := Nat.le_trans Nat.and_le_left (Nat.shiftRight_le _ _)
  have xc : (c >>> 1) &&& 21845 ≤ c := Nat.le_trans Nat.and_le_left (Nat.shiftRight_le _ _)
  have e1 : bcS1 (256 * (256 * c + b) + a) = 256 * (256 * (c - ((c >>> 1) &&& 21845)) + by1 b) + by1 a := by
    unfold bcS1 by1
    have x2 : ((256 * (256 * c + b) + a) >>> 1) &&& 1431655765 = 256 * (256 * ((c >>> 1) &&& 21845) + ((b >>> 1) &&& 85)) + ((a >>> 1) &&& 85) := x1
    rw [x2]
    omega
  have la : by1 a < 256 := Nat.lt_of_le_of_lt (Nat.sub_le _ _) ha
  have lb : by1 b < 256 := Nat.lt_of_le_of_lt (Nat.sub_le _ _) hb
  generalize by1 a = a1 at *
  generalize by1 b = b1 at *
  generalize c - ((c >>> 1) &&& 21845) = d at *
  have y0 : ((256 * (256 * d + b1) + a1) >>> 0) &&& (256 * (256 * 13107 + 51) + 51) = 256 * (256 * ((d >>> 0) &&& 13107) + ((b1 >>> 0) &&& 51)) + ((a1 >>> 0) &&& 51) := by
    rw [sm (by decide) la (by decide), sm (by decide) lb (by decide)]
  have y2 : ((256 * (256 * d + b1) + a1) >>> 2) &&& (256 * (256 * 13107 + 51) + 51) = 256 * (256 * ((d >>> 2) &&& 13107) + ((b1 >>> 2) &&& 51)) + ((a1 >>> 2) &&& 51) := by
    rw [sm (by decide) la (by decide), sm (by decide) lb (by decide)]
  have e2 : bcS2 (256 * (256 * d + b1) + a1) = 256 * (256 * ((d &&& 13107) + ((d >>> 2) &&& 13107)) + by2 b1) + by2 a1 := by
    unfold bcS2 by2
    have y3 : (256 * (256 * d + b1) + a1) &&& 858993459 = 256 * (256 * (d &&& 13107) + (b1 &&& 51)) + (a1 &&& 51) := y0
    have y4 : ((256 * (256 * d + b1) + a1) >>> 2) &&& 858993459 = 256 * (256 * ((d >>> 2) &&& 13107) + ((b1 >>> 2) &&& 51)) + ((a1 >>> 2) &&& 51) := y2
    rw [y3, y4]
    omega
  unfold bcQ
  rw [e1, e2, c2]
  generalize by2 a1 = a2 at *
  generalize by2 b1 = b2 at *
  have h := List.all_eq_true.mp (List.all_eq_true.mp (List.all_eq_true.mp (List.all_eq_true.mp (List.all_eq_true.mp tl_all (a2 % 16) (List.mem_range.mpr (by omega))) (a2 / 16) (List.mem_range.mpr (by omega))) (b2 % 16) (List.mem_range.mpr (by omega))) (b2 / 16) (List.mem_range.mpr (by omega))) (c % 2 + c / 2) (List.mem_range.mpr (by omega))
  have h2 := Nat.eq_of_beq_eq_true h
  rw [show 16 * (a2 / 16) + a2 % 16 = a2 by omega, show 16 * (b2 / 16) + b2 % 16 = b2 by omega] at h2
  exact h2
theorem mkF_add (f : Nat → Bool) (n k : Nat) : mkF f (n + k) = 2 ^ n * mkF (fun j => f (n + j)) k + mkF f n := by
  induction k with
  | zero => show mkF f n = 2 ^ n * 0 + mkF f n; omega
  | succ k ih =>
    have e : mkF f (n + (k + 1)) = if f (n + k) = true then mkF f (n + k) + 2 ^ (n + k) else mkF f (n + k) := rfl
    have e2 : mkF (fun j => f (n + j)) (k + 1) = if f (n + k) = true then mkF (fun j => f (n + j)) k + 2 ^ k else mkF (fun j => f (n + j)) k := rfl
    rw [e, e2, ih]
    by_cases h : f (n + k) = true
    · rw [if_pos h, if_pos h, Nat.mul_add, Nat.pow_add]; omega
    · rw [if_neg h, if_neg h]
theorem cnt_add (f : Nat → Bool) (n k : Nat) : cntN f (n + k) = cntN (fun j => f (n + j)) k + cntN f n := by
  induction k with
  | zero => show cntN f n = 0 + cntN f n; omega
  | succ k ih =>
    have e : cntN f (n + (k + 1)) = if f (n + k) = true then cntN f (n + k) + 1 else cntN f (n + k) := rfl
    have e2 : cntN (fun j => f (n + j)) (k + 1) = if f (n + k) = true then cntN (fun j => f (n + j)) k + 1 else cntN (fun j => f (n + j)) k := rfl
    rw [e, e2, ih]
    by_cases h : f (n + k) = true
    · rw [if_pos h, if_pos h]; omega
    · rw [if_neg h, if_neg h]
theorem mkF_lt (f : Nat → Bool) (n : Nat) : mkF f n < 2 ^ n := by
  induction n with
  | zero => exact Nat.one_pos
  | succ n ih =>
    unfold mkF
    rw [Nat.pow_succ]
    split <;> omega
theorem mkF_or {f : Nat → Bool} {n : Nat} : mkF f n + 2 ^ n = mkF f n ||| 2 ^ n := by
  have h := Nat.two_pow_add_eq_or_of_lt (mkF_lt f n) 1
  rw [Nat.mul_one] at h
  rw [Nat.add_comm, h, Nat.or_comm]
theorem tb_mk (f : Nat → Bool) (n k : Nat) : (mkF f n).testBit k = (decide (k < n) && f k) := by
  induction n with
  | zero => unfold mkF; rw [Nat.zero_testBit, decide_eq_false (by omega)]; rfl
  | succ n ih =>
    unfold mkF
    by_cases hf : f n = true
    · rw [if_pos hf, mkF_or, tb_or2, ih]
      by_cases e : n = k
      · subst e; rw [decide_eq_true (rfl : n = n), decide_eq_true (by omega : n < n + 1), hf, Bool.or_true]; rfl
      · rw [decide_eq_false e, Bool.or_false]
        by_cases h : k < n
        · rw [decide_eq_true h, decide_eq_true (by omega : k < n + 1)]
        · rw [decide_eq_false h, decide_eq_false (by omega : ¬ k < n + 1)]
    · rw [if_neg hf, ih]
      by_cases e : n = k
      · subst e
        rw [Bool.eq_false_iff.mpr hf, Bool.and_false, Bool.and_false]
      · by_cases h : k < n
        · rw [decide_eq_true h, decide_eq_true (by omega : k < n + 1)]
        · rw [decide_eq_false h, decide_eq_false (by omega : ¬ k < n + 1)]
theorem setF_mk (c : Nat → Bool) {n : Nat} (hn : n ≤ 31) : setF c n = nn (mkF c n) := by
  induction n with
  | zero => rfl
  | succ n ih =>
    unfold setF mkF
    have h1 := mkF_lt c n
    have h2 : 2 ^ n < 2 ^ 31 := Nat.pow_lt_pow_right (by decide) (by omega)
    by_cases hf : c n = true
    · rw [if_pos hf, if_pos hf, ih (by omega), shl_nn (by omega), or_nn (by omega) (by omega), mkF_or]
    · rw [if_neg hf, if_neg hf, ih (by omega)]
theorem mk_eq {m n : Nat} {c : Nat → Bool} (h : ∀ k, m.testBit k = (decide (k < n) && c k)) : m = mkF c n := by
  apply Nat.eq_of_testBit_eq
  intro k
  rw [h, tb_mk]
theorem bc_18 (f : Nat → Bool) : bcQ (mkF f 18) = cntN f 18 := by
  have a1 := chk8_use f 8 0 0 chk8_all
  have a2 := chk8_use (fun j => f (8 + j)) 8 0 0 chk8_all
  rw [Nat.zero_add, Nat.zero_add] at a1 a2
  have m1 : mkF f 18 = 2 ^ 16 * mkF (fun j => f (16 + j)) 2 + mkF f 16 := mkF_add f 16 2
  have m2 : mkF f 16 = 2 ^ 8 * mkF (fun j => f (8 + j)) 8 + mkF f 8 := mkF_add f 8 8
  have k1 : cntN f 18 = cntN (fun j => f (16 + j)) 2 + cntN f 16 := cnt_add f 16 2
  have k2 : cntN f 16 = cntN (fun j => f (8 + j)) 8 + cntN f 8 := cnt_add f 8 8
  have l0 := mkF_lt (fun j => f (16 + j)) 2
  have l1 := mkF_lt (fun j => f (8 + j)) 8
  have l2 := mkF_lt f 8
  have tc : mkF (fun j => f (16 + j)) 2 % 2 + mkF (fun j => f (16 + j)) 2 / 2 = cntN (fun j => f (16 + j)) 2 := by
    unfold mkF mkF mkF cntN cntN cntN
    cases f (16 + 0) <;> cases f (16 + 1) <;> rfl
  have e := bc_sum (a := mkF f 8) (b := mkF (fun j => f (8 + j)) 8) (c := mkF (fun j => f (16 + j)) 2) l2 l1 l0 ⟨a1.1, a1.2.1⟩ ⟨a2.1, a2.2.1⟩
  rw [a1.2.2, a2.2.2, tc] at e
  have em : mkF f 18 = 256 * (256 * mkF (fun j => f (16 + j)) 2 + mkF (fun j => f (8 + j)) 8) + mkF f 8 := by
    rw [m1, m2]
    have p1 : (2 : Nat) ^ 16 = 65536 := by decide
    have p2 : (2 : Nat) ^ 8 = 256 := by decide
    rw [p1, p2]
    omega
  rw [em, e, k1, k2]
  omega
theorem bc_cnt {f : Nat → Bool} {n : Nat} (hn : n ≤ 18) : bcQ (mkF f n) = cntN f n := by
  have e1 : mkF f n = mkF (fun k => decide (k < n) && f k) 18 := mk_eq fun k => by
    rw [tb_mk]
    by_cases h : k < n
    · rw [decide_eq_true h, decide_eq_true (show k < 18 by omega)]; rfl
    · rw [decide_eq_false h]; simp
  have e2 : ∀ j, cntN (fun k => decide (k < n) && f k) (n + j) = cntN f n := by
    intro j
    induction j with
    | zero =>
      have hcg : ∀ {c d : Nat → Bool} {n : Nat}, (∀ k, k < n → c k = d k) → cntN c n = cntN d n := by
        intro c d n
        induction n with
        | zero => intro _; rfl
        | succ n ih =>
          intro hq
          unfold cntN
          rw [ih (fun k hk => hq k (by omega)), hq n (by omega)]
      exact hcg fun k hk => by rw [decide_eq_true (show k < n by omega)]; rfl
    | succ j ih =>
      have e : cntN (fun k => decide (k < n) && f k) (n + (j + 1)) = if (decide (n + j < n) && f (n + j)) = true then cntN (fun k => decide (k < n) && f k) (n + j) + 1 else cntN (fun k => decide (k < n) && f k) (n + j) := rfl
      rw [e, decide_eq_false (by omega : ¬ n + j < n), ih]
      rfl
  rw [e1, bc_18]
  have := e2 (18 - n)
  rw [show n + (18 - n) = 18 by omega] at this
  exact this
theorem bv_tb {a i : Nat} (hi : i < 32) : (BitVec.ofNat 32 a).getLsbD i = a.testBit i := by
  rw [BitVec.getLsbD_ofNat, decide_eq_true hi, Bool.true_and]
theorem drop_nn {c : Nat → Bool} {n a : Nat} (hn : n ≤ 18) (ha : a < 18) : nn (mkF c n) &&& (((1 : Int32) <<< (nn a &&& 31)) ^^^ (-1 : Int32)) = nn (mkF (fun k => c k && !decide (k = a)) n) := by
  rw [shl_nn (by omega)]
  apply bv_inj
  have e : (nn (mkF c n) &&& (nn (2 ^ a) ^^^ (-1 : Int32))).toBitVec = BitVec.ofNat 32 (mkF c n) &&& (BitVec.ofNat 32 (2 ^ a) ^^^ BitVec.ofNat 32 4294967295) := rfl
  rw [e, nn_bv]
  apply BitVec.eq_of_getLsbD_eq
  intro i hi
  have h1 : (4294967295 : Nat).testBit i = true := by
    have : (4294967295 : Nat) = 2 ^ 32 - 1 := by decide
    rw [this, Nat.testBit_two_pow_sub_one, decide_eq_true hi]
  rw [BitVec.getLsbD_and, BitVec.getLsbD_xor, bv_tb hi, bv_tb hi, bv_tb hi, bv_tb hi, tb_mk, tb_mk, Nat.testBit_two_pow, h1]
  by_cases e2 : i = a
  · subst e2
    rw [decide_eq_true (rfl : i = i)]
    simp
  · rw [decide_eq_false (show ¬ i = a from e2), decide_eq_false (show ¬ a = i from fun q => e2 q.symm)]
    simp
theorem and_mk {c d : Nat → Bool} {n : Nat} (hn : n ≤ 31) : nn (mkF c n) &&& nn (mkF d n) = nn (mkF (fun k => c k && d k) n) := by
  have h1 := mkF_lt c n
  have h2 := mkF_lt d n
  have h3 : 2 ^ n ≤ 2 ^ 31 := Nat.pow_le_pow_right (by decide) hn
  rw [and_nn (by omega) (by omega)]
  congr 1
  refine mk_eq fun k => ?_
  rw [Nat.testBit_and, tb_mk, tb_mk]
  cases decide (k < n) <;> simp
theorem mk_0 {c : Nat → Bool} {n : Nat} : mkF c n = 0 ↔ (List.range n).all (fun j => !c j) = true := by
  rw [List.all_eq_true]
  constructor
  · intro h j hj
    have e := tb_mk c n j
    rw [h, Nat.zero_testBit, decide_eq_true (List.mem_range.mp hj), Bool.true_and] at e
    rw [← e]; rfl
  · intro h
    refine Nat.eq_of_testBit_eq fun k => ?_
    rw [tb_mk, Nat.zero_testBit]
    by_cases hk : k < n
    · have := h k (List.mem_range.mpr hk)
      cases hc : c k with
      | true => rw [hc] at this; cases this
      | false => rw [Bool.and_false]
    · rw [decide_eq_false hk, Bool.false_and]
theorem beside2_A {I : MI} {w na a : Nat} (h8 : I w 8 = nn na) (hna : na ≤ 18) (ha : a < 18) : F_World_othersBeside w (nn a) I = some (nn (cntN (fun k => (!decide (I (w + 8) k = 0) && decide (I (w + 7) k = I (w + 7) a)) && !decide (k = a)) na), I) := by
  have e1 : inR (nn a) 18 = true := inR_nn ha (by omega)
  have e2 : (nn a).toNatClampNeg = a := nn_nat (by omega)
  have hu := bc_cnt (f := fun k => (!decide (I (w + 8) k = 0) && decide (I (w + 7) k = I (w + 7) a)) && !decide (k = a)) hna
  have hl := mkF_lt (fun k => (!decide (I (w + 8) k = 0) && decide (I (w + 7) k = I (w + 7) a)) && !decide (k = a)) na
  have hl2 : 2 ^ na ≤ 2 ^ 18 := Nat.pow_le_pow_right (by decide) hna
  have hO : Ok (F_World_othersBeside w (nn a)) I fun v K => v = nn (cntN (fun k => (!decide (I (w + 8) k = 0) && decide (I (w + 7) k = I (w + 7) a)) && !decide (k = a)) na) ∧ K = I := by
    unfold F_World_othersBeside
    simp only [ok_bn, ok_ld, ok_rt, e1, e2, true_and, ok_eq (outIn_A h8 hna), setF_mk _ (show na ≤ 31 by omega), drop_nn hna ha]
    rw [bc_eq (by omega), hu]
    exact ok_rt.mpr ⟨rfl, rfl⟩
  obtain ⟨v, K, h1, rfl, rfl⟩ := hO
  exact h1
theorem meets_A {I : MI} {w na a : Nat} (h8 : I w 8 = nn na) (hna : na ≤ 18) (ha : a < 18) : F_World_meetsItsOwn w (nn a) I = some (if (List.range na).all (fun k => !(((!decide (I (w + 8) k = 0) && decide (I (w + 7) k = I (w + 7) a)) && (decide (I (w + 4) k = I (w + 4) a) && (decide ((1 : Int32) = 0) || !decide (I (w + 8) k = 0)))) && !decide (k = a))) = true then 0 else 1, I) := by
  have e1 : inR (nn a) 18 = true := inR_nn ha (by omega)
  have e2 : (nn a).toNatClampNeg = a := nn_nat (by omega)
  have hl := mkF_lt (fun k => ((!decide (I (w + 8) k = 0) && decide (I (w + 7) k = I (w + 7) a)) && (decide (I (w + 4) k = I (w + 4) a) && (decide ((1 : Int32) = 0) || !decide (I (w + 8) k = 0)))) && !decide (k = a)) na
  have hl2 : 2 ^ na ≤ 2 ^ 18 := Nat.pow_le_pow_right (by decide) hna
  have hO : Ok (F_World_meetsItsOwn w (nn a)) I fun v K => v = (if (List.range na).all (fun k => !(((!decide (I (w + 8) k = 0) && decide (I (w + 7) k = I (w + 7) a)) && (decide (I (w + 4) k = I (w + 4) a) && (decide ((1 : Int32) = 0) || !decide (I (w + 8) k = 0)))) && !decide (k = a))) = true then 0 else 1) ∧ K = I := by
    unfold F_World_meetsItsOwn
    simp only [ok_bn, ok_ld, ok_rt, e1, e2, true_and, ok_eq (outIn_A h8 hna), ok_eq (aliases_A h8 hna), setF_mk _ (show na ≤ 31 by omega), and_mk (show na ≤ 31 by omega), drop_nn hna ha, ok_ite]
    by_cases hz : (List.range na).all (fun k => !(((!decide (I (w + 8) k = 0) && decide (I (w + 7) k = I (w + 7) a)) && (decide (I (w + 4) k = I (w + 4) a) && (decide ((1 : Int32) = 0) || !decide (I (w + 8) k = 0)))) && !decide (k = a))) = true
    · rw [if_pos hz, mk_0.mpr hz, if_pos (show nn 0 = 0 from rfl)]
      simp (decide := true) only [ok_gdZ, ok_rt, true_and, true_or]
    · rw [if_neg hz, if_neg]
      · simp (decide := true) only [ok_gdZ, ok_rt, true_and, or_true]
      · intro q
        have q2 := (nn_inj (k := 0) (by omega) (by omega)).mp q
        exact hz (mk_0.mp q2)
  obtain ⟨v, K, h1, rfl, rfl⟩ := hO
  exact h1
theorem others_R {J : MI} {na a : Nat} (h7 : J 207 7 = nn na) (hna : na ≤ 18) (ha : a < 18) : F_R_othersBy (nn a) J = some (nn (cntN (fun k => (decide (J 208 (41 + k) = 1) && decide (J 208 (23 + k) = J 208 (23 + a))) && !decide (k = a)) na), J) := by
  rw [← (cntF_N _ na).1]
  unfold F_R_othersBy K_R_othersBy_4
  have e3 : (23 : Int32) + nn a = nn (23 + a) := nn_add 23 a
  have e4 : inR (nn (23 + a)) 95 = true := inR_nn (by omega) (by omega)
  have e5 : (nn (23 + a)).toNatClampNeg = 23 + a := nn_nat (by omega)
  refine cnt_lp _ (by omega) (fun k x hk => ?_) (fun x => ?_)
  · have g1 : nn k < nn na := (nn_lt (by omega) (by omega)).mpr hk
    have e6 : (23 : Int32) + nn k = nn (23 + k) := nn_add 23 k
    have e7 : inR (nn (23 + k)) 95 = true := inR_nn (by omega) (by omega)
    have e8 : (nn (23 + k)).toNatClampNeg = 23 + k := nn_nat (by omega)
    have hO : Ok (B_R_othersBy_4 (nn a) (x, nn k)) J fun v K => v = .inl (if ((decide (J 208 (41 + k) = 1) && decide (J 208 (23 + k) = J 208 (23 + a))) && !decide (k = a)) = true then x + 1 else x, nn (k + 1)) ∧ K = J := by
      unfold B_R_othersBy_4
      simp only [ok_bn, ok_rd, h7, ok_ite, if_pos g1, ok_rt, ok_eq (isOut_R (J := J) (show k < 18 by omega)), ok_ld, e3, e4, e5, e6, e7, e8, true_and, nn_s]
      by_cases e : k = a
      · subst e
        simp
      · have ne : ¬ nn k = nn a := fun q => e ((nn_inj (by omega) (by omega)).mp q)
        rw [if_neg ne]
        by_cases q1 : J 208 (41 + k) = 1
        · by_cases q2 : J 208 (23 + k) = J 208 (23 + a)
          · simp [q1, q2, e]
          · simp [q1, q2, e]
        · simp [q1, e]
    obtain ⟨v, K, h1, rfl, rfl⟩ := hO
    exact h1
  · have g1 : ¬ nn na < nn na := fun q => by have := (nn_lt (by omega) (by omega)).mp q; omega
    have hO : Ok (B_R_othersBy_4 (nn a) (x, nn na)) J fun v K => v = .inr x ∧ K = J := by
      unfold B_R_othersBy_4
      simp only [ok_bn, ok_rd, h7, ok_ite, if_neg g1, ok_rt, and_self]
    obtain ⟨v, K, h1, rfl, rfl⟩ := hO
    exact h1
theorem with_R {J : MI} {na a : Nat} (h7 : J 207 7 = nn na) (hna : na ≤ 18) (ha : a < 18) : F_R_isWithAnother (nn a) J = some (if (List.range na).all (fun k => (decide (k = a) || (!decide (J 212 k = J 212 a) || (!decide (J 208 (41 + k) = 1) || !decide (J 208 (23 + k) = J 208 (23 + a)))))) = true then 0 else 1, J) := by
  have hh := all_from (body := B_R_isWithAnother_2 (nn a)) (I := J) (n := na) (k0 := 0) (e0 := (1 : Int32)) (e1 := 0) (fun k => (decide (k = a) || (!decide (J 212 k = J 212 a) || (!decide (J 208 (41 + k) = 1) || !decide (J 208 (23 + k) = J 208 (23 + a)))))) (by omega) (by omega) (fun k _ hk => ?_) ?_
  · unfold F_R_isWithAnother K_R_isWithAnother_2
    rw [show (0 : Int32) = nn 0 from rfl, hh]
    congr 3
  · have g1 : nn k < nn na := (nn_lt (by omega) (by omega)).mpr hk
    have a1 : inR (nn a) 18 = true := inR_nn ha (by omega)
    have a2 : (nn a).toNatClampNeg = a := nn_nat (by omega)
    have a3 : inR (nn k) 18 = true := inR_nn (by omega) (by omega)
    have a4 : (nn k).toNatClampNeg = k := nn_nat (by omega)
    have e3 : (23 : Int32) + nn a = nn (23 + a) := nn_add 23 a
    have e4 : inR (nn (23 + a)) 95 = true := inR_nn (by omega) (by omega)
    have e5 : (nn (23 + a)).toNatClampNeg = 23 + a := nn_nat (by omega)
    have e6 : (23 : Int32) + nn k = nn (23 + k) := nn_add 23 k
    have e7 : inR (nn (23 + k)) 95 = true := inR_nn (by omega) (by omega)
    have e8 : (nn (23 + k)).toNatClampNeg = 23 + k := nn_nat (by omega)
    have hO : Ok (B_R_isWithAnother_2 (nn a) (nn k)) J fun v K => v = (if (decide (k = a) || (!decide (J 212 k = J 212 a) || (!decide (J 208 (41 + k) = 1) || !decide (J 208 (23 + k) = J 208 (23 + a))))) = true then .inl (nn (k + 1)) else .inr 1) ∧ K = J := by
      unfold B_R_isWithAnother_2
      simp only [ok_bn, ok_rd, h7, ok_ite, if_pos g1, ok_rt, ok_eq (isOut_R (J := J) (show k < 18 by omega)), ok_ld, a1, a2, a3, a4, e3, e4, e5, e6, e7, e8, true_and, nn_s, ok_gdZ]
      by_cases e : k = a
      · subst e
        simp
      · have ne : ¬ nn k = nn a := fun q => e ((nn_inj (by omega) (by omega)).mp q)
        rw [if_neg ne]
        by_cases q0 : J 212 k = J 212 a
        · by_cases q1 : J 208 (41 + k) = 1
          · by_cases q2 : J 208 (23 + k) = J 208 (23 + a)
            · simp [q0, q1, q2, e]
            · simp [q0, q1, q2, e]
          · simp [q0, q1, e]
        · simp [q0, e]
    obtain ⟨v, K, h1, rfl, rfl⟩ := hO
    exact h1
  · have g1 : ¬ nn na < nn na := fun q => by have := (nn_lt (by omega) (by omega)).mp q; omega
    have hO : Ok (B_R_isWithAnother_2 (nn a) (nn na)) J fun v K => v = .inr 0 ∧ K = J := by
      unfold B_R_isWithAnother_2
      simp only [ok_bn, ok_rd, h7, ok_ite, if_neg g1, ok_rt, ok_gdZ, true_or, and_self]
    obtain ⟨v, K, h1, rfl, rfl⟩ := hO
    exact h1
end SC31
