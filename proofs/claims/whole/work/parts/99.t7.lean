/-! text: numbers, and what a token is -/
section TG99
def numV (T : Nat → Int32) (b : Nat) : Nat → Int32
  | 0 => 0
  | k + 1 => 10 * numV T b k + T (b + k) - 48
theorem dig_val {x : Int32} (h : digC x = true) : ∃ d, d < 10 ∧ x = nn (d + 48) := by
  have q := of_decide_eq_true h
  rcases rng (v := x) 48 57 (by decide) (by decide) with ⟨k, h1, h2, h3⟩ | h4
  · exact ⟨k - 48, by omega, by rw [h3, show k - 48 + 48 = k by omega]⟩
  · rcases h4 with h4 | h4
    · exact absurd h4 q.1
    · exact absurd h4 q.2
theorem numV_bd {T : Nat → Int32} {b : Nat} : ∀ k, k ≤ 4 → (∀ j, j < k → digC (T (b + j)) = true) → ∃ v, v < 10 ^ k ∧ numV T b k = nn v := by
  intro k
  induction k with
  | zero => intro _ _; exact ⟨0, by decide, rfl⟩
  | succ k ih =>
    intro hk h
    obtain ⟨v, hv, e⟩ := ih (by omega) fun j hj => h j (by omega)
    obtain ⟨d, hd, e2⟩ := dig_val (h k (by omega))
    refine ⟨10 * v + d, by rw [Nat.pow_succ]; omega, ?_⟩
    have e3 : numV T b (k + 1) = 10 * numV T b k + T (b + k) - 48 := rfl
    rw [e3, e, e2, show (10 : Int32) = nn 10 from rfl, nn_mul, nn_add, show (48 : Int32) = nn 48 from rfl, nn_sub (by omega)]
    have : 10 * v + (d + 48) - 48 = 10 * v + d := by omega
    rw [this]
theorem numberAt_A {I : MI} {b e : Nat} (hb : b ≤ e) (he : e ≤ 400) : F_Reader_numberAt (nn b) (nn e) I = some (numV (I 106) b (min (e - b) 4), I) := by
  unfold F_Reader_numberAt K_Reader_numberAt_5
  refine lp_val (fun k => (numV (I 106) b k, nn (b + k))) (min (e - b) 4) (fun k hk => ?_) ?_ FU (by rw [FU_eq]; omega)
  · have hO : Ok (B_Reader_numberAt_5 (nn b) (nn e) (numV (I 106) b k, nn (b + k))) I fun r K => r = .inl (numV (I 106) b (k + 1), nn (b + (k + 1))) ∧ K = I := by
      have g1 : nn (b + k) < nn e := (nn_lt (by omega) (by omega)).mpr (by omega)
      have g2 : nn (b + k) < nn b + 4 := by
        rw [show (4 : Int32) = nn 4 from rfl, nn_add]
        exact (nn_lt (by omega) (by omega)).mpr (by omega)
      have i1 : inR (nn (b + k)) 400 = true := inR_nn (by omega) (by omega)
      have t1 : (nn (b + k)).toNatClampNeg = b + k := nn_nat (by omega)
      unfold B_Reader_numberAt_5
      simp only [ok_ite, if_pos g1, if_pos g2, ok_bn, ok_ld, i1, t1, ok_rt, true_and, nn_s, and_true]
      rfl
    obtain ⟨r, K, q1, rfl, rfl⟩ := hO
    exact q1
  · generalize hn : min (e - b) 4 = n
    have hO : Ok (B_Reader_numberAt_5 (nn b) (nn e) (numV (I 106) b n, nn (b + n))) I fun r K => r = .inr (numV (I 106) b n) ∧ K = I := by
      unfold B_Reader_numberAt_5
      by_cases h : b + n = e
      · have g1 : ¬ nn (b + n) < nn e := fun q => by have := (nn_lt (by omega) (by omega)).mp q; omega
        simp only [ok_ite, if_neg g1, ok_rt, and_self]
      · have g1 : nn (b + n) < nn e := (nn_lt (by omega) (by omega)).mpr (by omega)
        have g2 : ¬ nn (b + n) < nn b + 4 := fun q => by
          rw [show (4 : Int32) = nn 4 from rfl, nn_add] at q
          have := (nn_lt (by omega) (by omega)).mp q
          omega
        simp only [ok_ite, if_pos g1, if_neg g2, ok_rt, and_self]
    obtain ⟨r, K, q1, rfl, rfl⟩ := hO
    exact q1
theorem blk_let {x : Int32} (h : blkC x = true) : ¬ letC x = true := by
  rcases of_decide_eq_true h with e | e <;> (rw [e]; decide)
theorem blk_dig {x : Int32} (h : blkC x = true) : ¬ digC x = true := by
  rcases of_decide_eq_true h with e | e <;> (rw [e]; decide)
theorem let_32 {x : Int32} (h : letC x = true) : ¬ x = 32 := fun e => blk_let (decide_eq_true (Or.inl e)) h
/-- where a token begins, ends; its kind; its value -/
def tkB (T : Nat → Int32) (n y : Nat) : Nat := spn blkC T (n - y) y
def tkEd (T : Nat → Int32) (n b : Nat) : Nat := if letC (T b) = true then spn letC T (n - (b + 1)) (b + 1) else if digC (T b) = true then spn digC T (n - (b + 1)) (b + 1) else b + 1
def tkN (T : Nat → Int32) (n b : Nat) : Nat := if b < n then tkEd T n b else n
def tkK (T : Nat → Int32) (n b : Nat) : Int32 := if b < n then (if letC (T b) = true then (if kwR T b (tkEd T n b) wdL 0 = -1 then 1 else 2) else if digC (T b) = true then (if 4 < tkEd T n b - b then 1 else 3) else 4) else 0
def tkV (T : Nat → Int32) (n b : Nat) : Int32 := if b < n then (if letC (T b) = true then kwR T b (tkEd T n b) wdL 0 else if digC (T b) = true then numV T b (min (tkEd T n b - b) 4) else T b) else 0
def stc (T : Nat → Int32) (n : Nat) : Nat → Nat
  | 0 => tkB T n 0
  | c + 1 => tkB T n (tkN T n (stc T n c))
theorem tkB_le {T : Nat → Int32} {n y : Nat} (h : y ≤ n) : y ≤ tkB T n y ∧ tkB T n y ≤ n := by
  have := spn_le (p := blkC) (T := T) (n - y) y
  unfold tkB
  omega
theorem tkEd_le {T : Nat → Int32} {n b : Nat} (h : b < n) : b < tkEd T n b ∧ tkEd T n b ≤ n := by
  have h1 := spn_le (p := letC) (T := T) (n - (b + 1)) (b + 1)
  have h2 := spn_le (p := digC) (T := T) (n - (b + 1)) (b + 1)
  unfold tkEd
  split
  · omega
  · split <;> omega
theorem tkN_le {T : Nat → Int32} {n b : Nat} : tkN T n b ≤ n := by
  unfold tkN
  split
  · rename_i h; exact (tkEd_le h).2
  · omega
theorem stc_le {T : Nat → Int32} {n : Nat} : ∀ c, stc T n c ≤ n := by
  intro c
  cases c with
  | zero => exact (tkB_le (Nat.zero_le _)).2
  | succ c => exact (tkB_le tkN_le).2
theorem stc_ge {T : Nat → Int32} {n : Nat} : ∀ c, (∀ k, k < c → stc T n k < n) → c ≤ stc T n c := by
  intro c
  induction c with
  | zero => intro _; exact Nat.zero_le _
  | succ c ih =>
    intro h
    have h1 := ih fun k hk => h k (by omega)
    have h2 := h c (by omega)
    have h3 : stc T n (c + 1) = tkB T n (tkN T n (stc T n c)) := rfl
    have h4 := (tkB_le (T := T) (n := n) (tkN_le (T := T) (b := stc T n c))).1
    have h5 : tkN T n (stc T n c) = tkEd T n (stc T n c) := by unfold tkN; rw [if_pos h2]
    have h6 := (tkEd_le (T := T) h2).1
    rw [h3]
    omega
theorem tkB_blk {T : Nat → Int32} {n y : Nat} (h : y < n) (hb : blkC (T y) = true) : tkB T n y = tkB T n (y + 1) := by
  unfold tkB
  obtain ⟨m, hm⟩ : ∃ m, n - y = m + 1 := ⟨n - y - 1, by omega⟩
  rw [hm, show n - (y + 1) = m by omega]
  have e : spn blkC T (m + 1) y = if blkC (T y) = true then spn blkC T m (y + 1) else y := rfl
  rw [e, if_pos hb]
theorem tkB_non {T : Nat → Int32} {n y : Nat} (h : y < n) (hb : ¬ blkC (T y) = true) : tkB T n y = y := by
  unfold tkB
  obtain ⟨m, hm⟩ : ∃ m, n - y = m + 1 := ⟨n - y - 1, by omega⟩
  rw [hm]
  have e : spn blkC T (m + 1) y = if blkC (T y) = true then spn blkC T m (y + 1) else y := rfl
  rw [e, if_neg hb]
theorem tkB_end {T : Nat → Int32} {n : Nat} : tkB T n n = n := by
  unfold tkB
  rw [Nat.sub_self]
  rfl
/-! the same for texts that agree -/
theorem spn_co {p : Int32 → Bool} {T U : Nat → Int32} {n : Nat} (h : ∀ k, k < n → T k = U k) : ∀ m s, m + s ≤ n → spn p T m s = spn p U m s := by
  intro m
  induction m with
  | zero => intro s _; rfl
  | succ m ih =>
    intro s hs
    unfold spn
    rw [h s (by omega), ih (s + 1) (by omega)]
theorem kwR_co {T U : Nat → Int32} {n s e : Nat} (h : ∀ k, k < n → T k = U k) (hs : s ≤ e) (he : e ≤ n) : ∀ (L : List (Nat × Nat)) (i : Nat), kwR T s e L i = kwR U s e L i := by
  intro L
  induction L with
  | nil => intro i; rfl
  | cons w r ih =>
    intro i
    obtain ⟨p, l⟩ := w
    have e1 : kwR T s e ((p, l) :: r) i = if l = e - s ∧ mtc T s p l = true then nn i else kwR T s e r (i + 1) := rfl
    have e2 : kwR U s e ((p, l) :: r) i = if l = e - s ∧ mtc U s p l = true then nn i else kwR U s e r (i + 1) := rfl
    rw [e1, e2, ih (i + 1)]
    refine ite_iff ⟨fun q => ⟨q.1, ?_⟩, fun q => ⟨q.1, ?_⟩⟩ _ _
    · have q2 := mtc_iff.mp q.2
      exact mtc_iff.mpr fun j hj => by rw [← h (s + j) (by omega)]; exact q2 j hj
    · have q2 := mtc_iff.mp q.2
      exact mtc_iff.mpr fun j hj => by rw [h (s + j) (by omega)]; exact q2 j hj
theorem numV_co {T U : Nat → Int32} {n b : Nat} (h : ∀ k, k < n → T k = U k) : ∀ k, b + k ≤ n → numV T b k = numV U b k := by
  intro k
  induction k with
  | zero => intro _; rfl
  | succ k ih =>
    intro hk
    unfold numV
    rw [ih (by omega), h (b + k) (by omega)]
theorem tkEd_co {T U : Nat → Int32} {n b : Nat} (h : ∀ k, k < n → T k = U k) (hb : b < n) : tkEd T n b = tkEd U n b := by
  unfold tkEd
  rw [h b hb, spn_co h (n - (b + 1)) (b + 1) (by omega), spn_co h (n - (b + 1)) (b + 1) (by omega)]
theorem tkN_co {T U : Nat → Int32} {n b : Nat} (h : ∀ k, k < n → T k = U k) : tkN T n b = tkN U n b := by
  unfold tkN
  by_cases hb : b < n
  · rw [if_pos hb, if_pos hb, tkEd_co h hb]
  · rw [if_neg hb, if_neg hb]
theorem tkK_co {T U : Nat → Int32} {n b : Nat} (h : ∀ k, k < n → T k = U k) : tkK T n b = tkK U n b := by
  unfold tkK
  by_cases hb : b < n
  · have le := tkEd_le (T := U) hb
    rw [if_pos hb, if_pos hb, tkEd_co h hb, h b hb, kwR_co h (by omega) le.2]
  · rw [if_neg hb, if_neg hb]
theorem tkV_co {T U : Nat → Int32} {n b : Nat} (h : ∀ k, k < n → T k = U k) : tkV T n b = tkV U n b := by
  unfold tkV
  by_cases hb : b < n
  · have le := tkEd_le (T := U) hb
    rw [if_pos hb, if_pos hb, tkEd_co h hb, h b hb, kwR_co h (by omega) le.2, numV_co h _ (by omega)]
  · rw [if_neg hb, if_neg hb]
theorem tkB_co {T U : Nat → Int32} {n y : Nat} (h : ∀ k, k < n → T k = U k) (hy : y ≤ n) : tkB T n y = tkB U n y := spn_co h _ _ (by omega)
theorem stc_co {T U : Nat → Int32} {n : Nat} (h : ∀ k, k < n → T k = U k) : ∀ c, stc T n c = stc U n c := by
  intro c
  induction c with
  | zero => exact tkB_co h (Nat.zero_le _)
  | succ c ih =>
    unfold stc
    rw [ih, tkN_co h]
    exact tkB_co h tkN_le
end TG99
