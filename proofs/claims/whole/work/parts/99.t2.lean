/-! text: how far letters and digits go, class -/
section TB99
def spn (p : Int32 → Bool) (T : Nat → Int32) : Nat → Nat → Nat
  | 0, s => s
  | m + 1, s => if p (T s) = true then spn p T m (s + 1) else s
theorem spn_lp {body : Int32 → M (Int32 ⊕ Int32)} {I : MI} {p : Int32 → Bool} {T : Nat → Int32} {n : Nat} (hs : ∀ s, s < n → body (nn s) I = some (if p (T s) = true then .inl (nn (s + 1)) else .inr (nn s), I)) (he : body (nn n) I = some (.inr (nn n), I)) : ∀ m s N, m + s = n → m < N → lp body N (nn s) I = some (nn (spn p T m s), I) := by
  intro m
  induction m with
  | zero =>
    intro s N hm hN
    obtain ⟨N, rfl⟩ : ∃ N', N = N' + 1 := ⟨N - 1, by omega⟩
    have e : s = n := by omega
    subst e
    rw [lp_s]
    unfold bn
    rw [he]
    rfl
  | succ m ih =>
    intro s N hm hN
    obtain ⟨N, rfl⟩ : ∃ N', N = N' + 1 := ⟨N - 1, by omega⟩
    have q := ih (s + 1) N (by omega) (by omega)
    have e : spn p T (m + 1) s = if p (T s) = true then spn p T m (s + 1) else s := rfl
    rw [lp_s, e]
    unfold bn
    rw [hs s (by omega)]
    by_cases h : p (T s) = true
    · rw [if_pos h, if_pos h]
      exact q
    · rw [if_neg h, if_neg h]
      rfl
theorem spn_le {p : Int32 → Bool} {T : Nat → Int32} : ∀ m s, s ≤ spn p T m s ∧ spn p T m s ≤ m + s := by
  intro m
  induction m with
  | zero => intro s; exact ⟨Nat.le_refl _, by unfold spn; omega⟩
  | succ m ih =>
    intro s
    unfold spn
    by_cases h : p (T s) = true
    · rw [if_pos h]
      have := ih (s + 1)
      omega
    · rw [if_neg h]; omega
theorem dig_run {I : MI} {n s : Nat} {x2 : Int32} (hn : n ≤ 400) (hs : s ≤ n) : lp (B_Reader_cutIntoTokens_98 (nn n) x2) FU (nn s) I = some (nn (spn digC (I 106) (n - s) s), I) := by
  refine spn_lp (n := n) (fun s hs => ?_) ?_ (n - s) s FU (by omega) (by rw [FU_eq]; omega)
  · have hO : Ok (B_Reader_cutIntoTokens_98 (nn n) x2 (nn s)) I fun r K => r = (if digC (I 106 s) = true then .inl (nn (s + 1)) else .inr (nn s)) ∧ K = I := by
      have g : nn s < nn n := (nn_lt (by omega) (by omega)).mpr hs
      have i1 : inR (nn s) 400 = true := inR_nn (by omega) (by omega)
      have t1 : (nn s).toNatClampNeg = s := nn_nat (by omega)
      unfold B_Reader_cutIntoTokens_98
      simp only [ok_ite, if_pos g, ok_bn, ok_ld, i1, t1, dig_A, ok_rt, nn_s, true_and]
      by_cases h : digC (I 106 s) = true
      · simp only [if_pos h, if_neg one_ne, and_self]
      · simp only [if_neg h, if_true, and_self]
    obtain ⟨r, K, q1, rfl, rfl⟩ := hO
    exact q1
  · have g : ¬ nn n < nn n := fun q => by have := (nn_lt (j := n) (k := n) (by omega) (by omega)).mp q; omega
    unfold B_Reader_cutIntoTokens_98
    rw [if_neg g]; rfl
theorem let_run {I : MI} {n s : Nat} {x2 : Int32} (hn : n ≤ 400) (hs : s ≤ n) : lp (B_Reader_cutIntoTokens_36 (nn n) x2) FU (nn s) I = some (nn (spn letC (I 106) (n - s) s), I) := by
  refine spn_lp (n := n) (fun s hs => ?_) ?_ (n - s) s FU (by omega) (by rw [FU_eq]; omega)
  · have hO : Ok (B_Reader_cutIntoTokens_36 (nn n) x2 (nn s)) I fun r K => r = (if letC (I 106 s) = true then .inl (nn (s + 1)) else .inr (nn s)) ∧ K = I := by
      have g : nn s < nn n := (nn_lt (by omega) (by omega)).mpr hs
      have i1 : inR (nn s) 400 = true := inR_nn (by omega) (by omega)
      have t1 : (nn s).toNatClampNeg = s := nn_nat (by omega)
      unfold B_Reader_cutIntoTokens_36
      simp only [ok_ite, if_pos g, ok_bn, ok_ld, i1, t1, let_A, ok_rt, nn_s, true_and]
      by_cases h : letC (I 106 s) = true
      · simp only [if_pos h, if_neg one_ne, and_self]
      · simp only [if_neg h, if_true, and_self]
    obtain ⟨r, K, q1, rfl, rfl⟩ := hO
    exact q1
  · have g : ¬ nn n < nn n := fun q => by have := (nn_lt (j := n) (k := n) (by omega) (by omega)).mp q; omega
    unfold B_Reader_cutIntoTokens_36
    rw [if_neg g]; rfl
end TB99
