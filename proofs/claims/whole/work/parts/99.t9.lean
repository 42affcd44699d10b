/-! text: all tokens, class -/
section TI99
def adT (I : MI) (c : Nat) (k v s : Int32) : MI := bup (bup (bup (bup I 107 (upd (I 107) c k)) 108 (upd (I 108) c v)) 109 (upd (I 109) c s)) 93 (upd (I 93) 9 (nn (c + 1)))
theorem add_A {I : MI} {c : Nat} {k v s : Int32} (hc : c ≤ 400) (h9 : I 93 9 = nn c) : F_Reader_addToken k v s I = some ((), adT I c k v s) := by
  have hO : Ok (F_Reader_addToken k v s) I fun r K => r = () ∧ K = adT I c k v s := by
    have g : ¬ (400 : Int32) < nn c := fun q => by have := (nn_lt (j := 400) (by omega) (by omega)).mp q; omega
    have i1 : inR (nn c) 401 = true := inR_nn (by omega) (by omega)
    have t1 : (nn c).toNatClampNeg = c := nn_nat (by omega)
    unfold F_Reader_addToken adT
    simp (decide := true) only [ok_bn, ok_rd, h9, ok_ite, if_neg g, ok_sr, i1, t1, bup_eq, bup_ne, ok_wr, ok_rt, nn_s, true_and, and_self]
  obtain ⟨r, K, q1, rfl, rfl⟩ := hO
  exact q1
/-- the tokens that lie in the class's rows -/
def tkI (T : Nat → Int32) (n : Nat) (I : MI) (c : Nat) : Prop := I 93 9 = nn c ∧ ∀ k, k < c → I 107 k = tkK T n (stc T n k) ∧ I 108 k = tkV T n (stc T n k) ∧ I 109 k = nn (stc T n k)
def frC (I K : MI) : Prop := (∀ a, a ≠ 93 → a ≠ 107 → a ≠ 108 → a ≠ 109 → K a = I a) ∧ ∀ k, k ≠ 9 → K 93 k = I 93 k
theorem frC_refl (I : MI) : frC I I := ⟨fun _ _ _ _ _ => rfl, fun _ _ => rfl⟩
theorem frC_trans {I K L : MI} (h : frC I K) (g : frC K L) : frC I L := ⟨fun a h1 h2 h3 h4 => by rw [g.1 a h1 h2 h3 h4, h.1 a h1 h2 h3 h4], fun k hk => by rw [g.2 k hk, h.2 k hk]⟩
theorem adT_fr {I : MI} {c : Nat} {k v s : Int32} : frC I (adT I c k v s) := by
  refine ⟨fun a h1 h2 h3 h4 => ?_, fun k hk => ?_⟩
  · unfold adT; rw [bup_ne _ _ h1, bup_ne _ _ h4, bup_ne _ _ h3, bup_ne _ _ h2]
  · unfold adT; rw [bup_eq, upd_ne _ _ hk]
theorem adT_tk {T : Nat → Int32} {n : Nat} {I : MI} {c : Nat} {k v s : Int32} (h : tkI T n I c) (hk : k = tkK T n (stc T n c)) (hv : v = tkV T n (stc T n c)) (hs : s = nn (stc T n c)) : tkI T n (adT I c k v s) (c + 1) := by
  have e7 : adT I c k v s 107 = upd (I 107) c k := by unfold adT; rw [bup_ne _ _ (by decide), bup_ne _ _ (by decide), bup_ne _ _ (by decide), bup_eq]
  have e8 : adT I c k v s 108 = upd (I 108) c v := by unfold adT; rw [bup_ne _ _ (by decide), bup_ne _ _ (by decide), bup_eq]
  have e9 : adT I c k v s 109 = upd (I 109) c s := by unfold adT; rw [bup_ne _ _ (by decide), bup_eq]
  refine ⟨by unfold adT; rw [bup_eq, upd_eq], fun j hj => ?_⟩
  rw [e7, e8, e9]
  by_cases e : j = c
  · subst e
    rw [upd_eq, upd_eq, upd_eq]
    exact ⟨hk, hv, hs⟩
  · rw [upd_ne _ _ e, upd_ne _ _ e, upd_ne _ _ e]
    exact h.2 j (by omega)
theorem cut_lp {T : Nat → Int32} {n : Nat} (hn : n ≤ 400) : ∀ M m y N c (I : MI), m ≤ M → m + y = n → m < N → c ≤ y → tkB T n y = stc T n c → I 106 = T → tkI T n I c → (∀ k, k < c → stc T n k < n) → Ok (lp (B_Reader_cutIntoTokens_12 (nn n)) N (nn y)) I fun _ K => ∃ c', c' ≤ n ∧ tkI T n K (c' + 1) ∧ (∀ k, k < c' → stc T n k < n) ∧ stc T n c' = n ∧ frC I K := by
  intro M
  induction M with
  | zero =>
    intro m y N c I hM hm hN hc hB hT hI hlt
    obtain ⟨N, rfl⟩ : ∃ N', N = N' + 1 := ⟨N - 1, by omega⟩
    have e : y = n := by omega
    subst e
    rw [tkB_end] at hB
    have g : ¬ nn y < nn y := fun q => by have := (nn_lt (j := y) (k := y) (by omega) (by omega)).mp q; omega
    have eK : tkK T y (stc T y c) = 0 := by rw [← hB]; unfold tkK; rw [if_neg (by omega)]
    have eV : tkV T y (stc T y c) = 0 := by rw [← hB]; unfold tkV; rw [if_neg (by omega)]
    rw [lp_s, ok_bn]
    unfold B_Reader_cutIntoTokens_12
    rw [if_neg g, ok_bn, ok_eq (add_A (by omega) hI.1), ok_rt]
    show Ok (rt ()) _ _
    rw [ok_rt]
    exact ⟨c, by omega, adT_tk hI eK.symm eV.symm (by rw [← hB]), hlt, hB.symm, adT_fr⟩
  | succ M ih =>
    intro m y N c I hM hm hN hc hB hT hI hlt
    rcases Nat.eq_zero_or_pos m with hm0 | hmp
    · exact ih m y N c I (by omega) hm hN hc hB hT hI hlt
    obtain ⟨N, rfl⟩ : ∃ N', N = N' + 1 := ⟨N - 1, by omega⟩
    have hy : y < n := by omega
    have g : nn y < nn n := (nn_lt (by omega) (by omega)).mpr hy
    have i1 : inR (nn y) 400 = true := inR_nn (by omega) (by omega)
    have t1 : (nn y).toNatClampNeg = y := nn_nat (by omega)
    have go : ∀ (e : Nat) (K : MI), y < e → e ≤ n → tkB T n e = stc T n (c + 1) → K 106 = T → tkI T n K (c + 1) → stc T n c < n → frC I K → Ok (lp (B_Reader_cutIntoTokens_12 (nn n)) N (nn e)) K fun _ K => ∃ c', c' ≤ n ∧ tkI T n K (c' + 1) ∧ (∀ k, k < c' → stc T n k < n) ∧ stc T n c' = n ∧ frC I K := by
      intro e K h1 h2 h3 h4 h5 h6 h7
      refine ok_mono (ih (n - e) e N (c + 1) K (by omega) (by omega) (by omega) (by omega) h3 h4 h5 fun k hk => ?_) fun _ K2 q => ?_
      · by_cases e : k = c
        · rw [e]; exact h6
        · exact hlt k (by omega)
      · obtain ⟨c', q1, q2, q3, q4, q5⟩ := q
        exact ⟨c', q1, q2, q3, q4, frC_trans h7 q5⟩
    rw [lp_s, ok_bn]
    unfold B_Reader_cutIntoTokens_12
    rw [if_pos g, ok_bn, ok_ld, t1, hT, let_A]
    refine ⟨i1, ?_⟩
    rw [ok_bn, ok_rt]
    by_cases hl : letC (T y) = true
    · have hnb : ¬ blkC (T y) = true := fun z => blk_let z hl
      have hs : stc T n c = y := by rw [← hB]; exact tkB_non hy hnb
      have eE : tkEd T n y = spn letC T (n - (y + 1)) (y + 1) := by unfold tkEd; rw [if_pos hl]
      have le := tkEd_le (T := T) hy
      have run := let_run (I := I) (n := n) (s := y + 1) (x2 := nn y) hn (by omega)
      rw [hT, ← eE] at run
      have kw := keyword_A (I := I) (s := y) (e := tkEd T n y) (by omega) (by omega)
      rw [hT] at kw
      have eV : tkV T n (stc T n c) = kwR T y (tkEd T n y) wdL 0 := by rw [hs]; unfold tkV; rw [if_pos hy, if_pos hl]
      have eK : tkK T n (stc T n c) = if kwR T y (tkEd T n y) wdL 0 = -1 then 1 else 2 := by rw [hs]; unfold tkK; rw [if_pos hy, if_pos hl]
      have eB : tkB T n (tkEd T n y) = stc T n (c + 1) := by
        show _ = tkB T n (tkN T n (stc T n c))
        rw [hs]; unfold tkN; rw [if_pos hy]
      rw [if_pos hl, ok_ite, if_neg one_ne, nn_s]
      unfold K_Reader_cutIntoTokens_36
      rw [ok_bn, ok_eq run]
      unfold K_Reader_cutIntoTokens_61
      rw [ok_bn, ok_eq kw, ok_ite]
      by_cases hk : kwR T y (tkEd T n y) wdL 0 = -1
      · rw [if_pos hk, ok_bn, ok_eq (add_A (by omega) hI.1), ok_rt]
        rw [if_pos hk] at eK
        exact go _ _ le.1 le.2 eB (by rw [adT_fr.1 106 (by decide) (by decide) (by decide) (by decide), hT]) (adT_tk hI eK.symm (by rw [eV]) (by rw [hs])) (by omega) adT_fr
      · rw [if_neg hk, ok_bn, ok_eq (add_A (by omega) hI.1), ok_rt]
        rw [if_neg hk] at eK
        exact go _ _ le.1 le.2 eB (by rw [adT_fr.1 106 (by decide) (by decide) (by decide) (by decide), hT]) (adT_tk hI eK.symm (by rw [eV]) (by rw [hs])) (by omega) adT_fr
    · rw [if_neg hl, ok_ite, if_pos rfl, dig_A, ok_bn, ok_rt]
      by_cases hd : digC (T y) = true
      · have hnb : ¬ blkC (T y) = true := fun z => blk_dig z hd
        have hs : stc T n c = y := by rw [← hB]; exact tkB_non hy hnb
        have eE : tkEd T n y = spn digC T (n - (y + 1)) (y + 1) := by unfold tkEd; rw [if_neg hl, if_pos hd]
        have le := tkEd_le (T := T) hy
        have run := dig_run (I := I) (n := n) (s := y + 1) (x2 := nn y) hn (by omega)
        rw [hT, ← eE] at run
        have nu := numberAt_A (I := I) (b := y) (e := tkEd T n y) (by omega) (by omega)
        rw [hT] at nu
        have eV : tkV T n (stc T n c) = numV T y (min (tkEd T n y - y) 4) := by rw [hs]; unfold tkV; rw [if_pos hy, if_neg hl, if_pos hd]
        have eK : tkK T n (stc T n c) = if 4 < tkEd T n y - y then 1 else 3 := by rw [hs]; unfold tkK; rw [if_pos hy, if_neg hl, if_pos hd]
        have eB : tkB T n (tkEd T n y) = stc T n (c + 1) := by
          show _ = tkB T n (tkN T n (stc T n c))
          rw [hs]; unfold tkN; rw [if_pos hy]
        rw [if_pos hd, ok_ite, if_neg one_ne, nn_s]
        unfold K_Reader_cutIntoTokens_98
        rw [ok_bn, ok_eq run]
        unfold K_Reader_cutIntoTokens_123
        rw [nn_sub (by omega), ok_ite]
        have g5 : (4 : Int32) < nn (tkEd T n y - y) ↔ 4 < tkEd T n y - y := nn_lt (j := 4) (by omega) (by omega)
        by_cases h5 : 4 < tkEd T n y - y
        · rw [if_pos (g5.mpr h5), ok_bn, ok_eq nu, ok_bn, ok_eq (add_A (by omega) hI.1), ok_rt]
          rw [if_pos h5] at eK
          exact go _ _ le.1 le.2 eB (by rw [adT_fr.1 106 (by decide) (by decide) (by decide) (by decide), hT]) (adT_tk hI eK.symm (by rw [eV]) (by rw [hs])) (by omega) adT_fr
        · rw [if_neg fun z => h5 (g5.mp z), ok_bn, ok_eq nu, ok_bn, ok_eq (add_A (by omega) hI.1), ok_rt]
          rw [if_neg h5] at eK
          exact go _ _ le.1 le.2 eB (by rw [adT_fr.1 106 (by decide) (by decide) (by decide) (by decide), hT]) (adT_tk hI eK.symm (by rw [eV]) (by rw [hs])) (by omega) adT_fr
      · rw [if_neg hd, ok_ite, if_pos rfl]
        have bl : blkC (T y) = true → Ok (lp (B_Reader_cutIntoTokens_12 (nn n)) N (nn (y + 1))) I fun _ K => ∃ c', c' ≤ n ∧ tkI T n K (c' + 1) ∧ (∀ k, k < c' → stc T n k < n) ∧ stc T n c' = n ∧ frC I K := by
          intro hb
          exact ih (m - 1) (y + 1) N c I (by omega) (by omega) (by omega) (by omega) (by rw [← tkB_blk hy hb]; exact hB) hT hI hlt
        by_cases h1 : T y = 32
        · rw [ok_ite, if_pos h1, ok_rt, nn_s]
          exact bl (decide_eq_true (Or.inl h1))
        · rw [ok_ite, if_neg h1]
          by_cases h2 : T y = 10
          · rw [ok_ite, if_pos h2, ok_rt, nn_s]
            exact bl (decide_eq_true (Or.inr h2))
          · have hnb : ¬ blkC (T y) = true := fun z => (of_decide_eq_true z).elim h1 h2
            have hs : stc T n c = y := by rw [← hB]; exact tkB_non hy hnb
            have eE : tkEd T n y = y + 1 := by unfold tkEd; rw [if_neg hl, if_neg hd]
            have eV : tkV T n (stc T n c) = T y := by rw [hs]; unfold tkV; rw [if_pos hy, if_neg hl, if_neg hd]
            have eK : tkK T n (stc T n c) = 4 := by rw [hs]; unfold tkK; rw [if_pos hy, if_neg hl, if_neg hd]
            have eB : tkB T n (y + 1) = stc T n (c + 1) := by
              show _ = tkB T n (tkN T n (stc T n c))
              rw [hs]; unfold tkN; rw [if_pos hy, eE]
            rw [ok_ite, if_neg h2, ok_bn, ok_eq (add_A (by omega) hI.1), ok_rt, nn_s]
            exact go _ _ (by omega) (by omega) eB (by rw [adT_fr.1 106 (by decide) (by decide) (by decide) (by decide), hT]) (adT_tk hI eK.symm (by rw [eV]) (by rw [hs])) (by omega) adT_fr
theorem cut_A {I : MI} {n : Nat} (hn : n ≤ 400) : Ok (F_Reader_cutIntoTokens (nn n)) I fun _ K => ∃ c', c' ≤ n ∧ tkI (I 106) n K (c' + 1) ∧ (∀ k, k < c' → stc (I 106) n k < n) ∧ stc (I 106) n c' = n ∧ K 93 10 = 0 ∧ (∀ a, a ≠ 93 → a ≠ 107 → a ≠ 108 → a ≠ 109 → K a = I a) ∧ ∀ k, k ≠ 9 → k ≠ 10 → K 93 k = I 93 k := by
  unfold F_Reader_cutIntoTokens K_Reader_cutIntoTokens_12
  rw [ok_bn, ok_wr, ok_bn, ok_wr]
  refine ok_mono (cut_lp (T := I 106) hn n n 0 FU 0 _ (Nat.le_refl _) (by omega) (by rw [FU_eq]; omega) (Nat.le_refl _) rfl ?_ ⟨?_, fun k hk => absurd hk (by omega)⟩ fun k hk => absurd hk (by omega)) fun _ K q => ?_
  · rw [bup_ne _ _ (by decide), bup_ne _ _ (by decide)]
  · rw [bup_eq, upd_ne _ _ (by decide), bup_eq, upd_eq]; rfl
  · obtain ⟨c', q1, q2, q3, q4, q5, q6⟩ := q
    refine ⟨c', q1, q2, q3, q4, ?_, fun a h1 h2 h3 h4 => ?_, fun k h1 h2 => ?_⟩
    · rw [q6 10 (by decide), bup_eq, upd_eq]
    · rw [q5 a h1 h2 h3 h4, bup_ne _ _ h1, bup_ne _ _ h1]
    · rw [q6 k h1, bup_eq, upd_ne _ _ h2, bup_eq, upd_ne _ _ h1]
end TI99
