/-! text: the law is taken over -/
section TX99
def cqy (f : Nat → Int32) (o k : Nat) : Nat → Int32 := fun i => if i < k then f (o + i) else f i
theorem cqy_0 (f : Nat → Int32) (o : Nat) : cqy f o 0 = f := by
  funext i
  unfold cqy
  rw [if_neg (Nat.not_lt_zero _)]
theorem cqy_s (f : Nat → Int32) (o k : Nat) : upd (cqy f o k) k (f (o + k)) = cqy f o (k + 1) := by
  funext i
  by_cases e : i = k
  · subst e
    rw [upd_eq]
    unfold cqy
    rw [if_pos (Nat.lt_succ_self _)]
  · rw [upd_ne _ _ e]
    unfold cqy
    by_cases h : i < k
    · rw [if_pos h, if_pos (by omega)]
    · rw [if_neg h, if_neg (by omega)]
theorem cqy_r {f : Nat → Int32} {o k : Nat} (h : k ≤ o) : cqy f o k (o + k) = f (o + k) := by
  unfold cqy
  rw [if_neg (by omega)]
theorem cqy_lt {f : Nat → Int32} {o k i : Nat} (h : i < k) : cqy f o k i = f (o + i) := if_pos h
theorem tb_eq {I : MI} {t0 t1 n w : Nat} (h3 : I t1 3 = nn n) (h0 : I t0 0 = nn w) (hs : siz shT (t1 + 1) = siz shT (t0 + 1)) (hb : n * w ≤ siz shT (t0 + 1)) (hb2 : n * w < 2 ^ 31) (hne : t1 + 1 ≠ t0) (hne2 : t0 ≠ t1) : F_Table_become t0 t1 I = some ((), bup (bup I t0 (upd (I t0) 3 (nn n))) (t0 + 1) fun k => if k < n * w then I (t1 + 1) k else I (t0 + 1) k) := by
  have b0 : (bup I t0 (upd (I t0) 3 (nn n))) t0 0 = nn w := by rw [bup_eq, upd_ne _ _ (by decide)]; exact h0
  have b3 : (bup I t0 (upd (I t0) 3 (nn n))) t0 3 = nn n := by rw [bup_eq, upd_eq]
  unfold F_Table_become
  rw [if_pos (congrArg Int32.ofNat hs), bn_rd, h3, bn_wr, bn_rd, b3, bn_rd, b0, nn_mul, bn_of (cp_nn (a := t1 + 1) (b := t0 + 1) (by rw [hs]; exact hb) hb hb2 _), bup_ne _ _ hne, bup_ne _ _ (by omega)]
  rfl
def fcS (f g : Nat → Int32) (m : Nat) : Nat → Int32 := fun k => if k < m then f k else g k
theorem takes_A {I : MI} {n c : Nat} (h3 : I 96 3 = nn n) (h0 : I 17 0 = nn 4) (hn : n ≤ 16) (hc : I 95 1 = nn c) : ∃ K, F_Texts_take 15 0 94 I = some (nn n, K) ∧ (∀ a, a ≠ 16 → a ≠ 17 → a ≠ 18 → a ≠ 19 → K a = I a) ∧ K 17 = upd (I 17) 3 (nn n) ∧ K 16 1 = nn c ∧ (∀ k, k < 4 * n → K 18 k = I 97 k) ∧ ∀ k, k < 400 → K 19 k = I 98 k := by
  have e1 := tb_eq (I := I) (t0 := 17) (t1 := 96) (n := n) (w := 4) h3 h0 rfl (by show n * 4 ≤ 64; omega) (by omega) (by decide) (by decide)
  have hK1 : ∃ K1, K1 = bup (bup I 17 (upd (I 17) 3 (nn n))) (17 + 1) fun k => if k < n * 4 then I (96 + 1) k else I (17 + 1) k := ⟨_, rfl⟩
  obtain ⟨K1, eK1⟩ := hK1
  rw [← eK1] at e1
  have k17 : K1 17 = upd (I 17) 3 (nn n) := by rw [eK1, bup_ne _ _ (by decide), bup_eq]
  have k18 : ∀ k, k < 4 * n → K1 18 k = I 97 k := fun k hk => by
    rw [eK1, show (17 + 1 : Nat) = 18 from rfl, bup_eq, if_pos (by omega)]
  have ko : ∀ a, a ≠ 17 → a ≠ 18 → K1 a = I a := fun a ha hb => by rw [eK1, bup_ne _ _ hb, bup_ne _ _ ha]
  have hK2 : ∃ K2, K2 = bup K1 16 (upd (K1 16) 1 (nn c)) := ⟨_, rfl⟩
  obtain ⟨K2, eK2⟩ := hK2
  have hK3 : ∃ K3, K3 = bup K2 19 fun k => if k < 400 then K2 98 k else K2 19 k := ⟨_, rfl⟩
  obtain ⟨K3, eK3⟩ := hK3
  have e2 : F_Law_become 16 95 I = some ((), K3) := by
    unfold F_Law_become
    rw [bn_of (show F_Table_become (16 + 1) (95 + 1) I = some ((), K1) from e1), bn_rd, ko 95 (by decide) (by decide), hc, bn_wr, ← eK2, bn_of (cp_nn (na := 400) (nb := 400) (a := 95 + 3) (b := 16 + 3) (n := 400) (by decide) (by decide) (by decide) _), eK3]
    rfl
  have o2 : ∀ a, a ≠ 16 → a ≠ 17 → a ≠ 18 → K2 a = I a := fun a h1 h2 h3 => by rw [eK2, bup_ne _ _ h1, ko a h2 h3]
  refine ⟨K3, ?_, fun a h1 h2 h3 h4 => ?_, ?_, ?_, fun k hk => ?_, fun k hk => ?_⟩
  · unfold F_Texts_take
    rw [if_pos rfl, bn_of (show F_Law_become (15 + 1) (94 + 1) I = some ((), K3) from e2), bn_rd]
    show some (K3 17 3, K3) = _
    rw [eK3, bup_ne _ _ (by decide), eK2, bup_ne _ _ (by decide), k17, upd_eq]
  · rw [eK3, bup_ne _ _ h4, o2 a h1 h2 h3]
  · rw [eK3, bup_ne _ _ (by decide), eK2, bup_ne _ _ (by decide), k17]
  · rw [eK3, bup_ne _ _ (by decide), eK2, bup_eq, upd_eq]
  · rw [eK3, bup_ne _ _ (by decide), eK2, bup_ne _ _ (by decide), k18 k hk]
  · rw [eK3, bup_eq, if_pos hk, o2 98 (by decide) (by decide) (by decide)]
theorem takes_R {J : MI} {n c : Nat} (hn : n ≤ 16) (hc : c ≤ 400) (h27 : J 207 27 = 0) (h28 : J 207 28 = nn c) : Ok (F_R_takesLaw (nn n)) J fun _ K => (∀ a, a ≠ 218 → a ≠ 219 → a ≠ 220 → a ≠ 221 → a ≠ 222 → a ≠ 223 → a ≠ 224 → K a = J a) ∧ K 218 = upd (J 218) 0 (nn n) ∧ K 219 = cqy (J 219) 32 n ∧ K 220 = cqy (J 220) 32 n ∧ K 221 = cqy (J 221) 32 n ∧ K 222 = cqy (J 222) 32 n ∧ K 223 = cqy (J 223) 800 c ∧ K 224 = cqy (J 224) 800 c := by
  unfold F_R_takesLaw K_R_takesLaw_2
  rw [ok_bn]
  refine ok_mono (ok_lp (Q := fun (_ : Unit) (K : MI) => (∀ a, a ≠ 219 → a ≠ 220 → a ≠ 221 → a ≠ 222 → K a = J a) ∧ K 219 = cqy (J 219) 32 n ∧ K 220 = cqy (J 220) 32 n ∧ K 221 = cqy (J 221) 32 n ∧ K 222 = cqy (J 222) 32 n) (fun k (y : Int32) (K : MI) => y = nn k ∧ (∀ a, a ≠ 219 → a ≠ 220 → a ≠ 221 → a ≠ 222 → K a = J a) ∧ K 219 = cqy (J 219) 32 k ∧ K 220 = cqy (J 220) 32 k ∧ K 221 = cqy (J 221) 32 k ∧ K 222 = cqy (J 222) 32 k) n (fun k y K hk h => ?_) (fun y K h => ?_) FU 0 J (by rw [FU_eq]; omega) ⟨rfl, fun _ _ _ _ _ => rfl, (cqy_0 _ _).symm, (cqy_0 _ _).symm, (cqy_0 _ _).symm, (cqy_0 _ _).symm⟩) fun _ K q => ?_
  · obtain ⟨rfl, ho, r9, r20, r21, r22⟩ := h
    have g : nn k < nn n := (nn_lt (by omega) (by omega)).mpr hk
    have s27 : K 207 27 = 0 := by rw [ho 207 (by decide) (by decide) (by decide) (by decide)]; exact h27
    have xd : (16 : Int32) * 0 + nn k = nn k := by rw [Int32.mul_zero, Int32.zero_add]
    have xs : (32 : Int32) + nn k = nn (32 + k) := nn_add 32 k
    have i1 : inR (nn k) 48 = true := inR_nn (by omega) (by omega)
    have t1 : (nn k).toNatClampNeg = k := nn_nat (by omega)
    have i2 : inR (nn (32 + k)) 48 = true := inR_nn (by omega) (by omega)
    have t2 : (nn (32 + k)).toNatClampNeg = 32 + k := nn_nat (by omega)
    unfold B_R_takesLaw_2
    simp (decide := true) only [ok_ite, if_pos g, ok_bn, ok_rd, s27, ok_ld, ok_sr, xd, xs, i1, t1, i2, t2, bup_eq, bup_ne, ok_rt, nn_s, true_and, r9, r20, r21, r22]
    refine ⟨fun a h1 h2 h3 h4 => ?_, ?_, ?_, ?_, ?_⟩
    · rw [bup_ne _ _ h4, bup_ne _ _ h3, bup_ne _ _ h2, bup_ne _ _ h1]; exact ho a h1 h2 h3 h4
    · rw [cqy_r (by omega), cqy_s]
    · rw [cqy_r (by omega), cqy_s]
    · rw [cqy_r (by omega), cqy_s]
    · rw [cqy_r (by omega), cqy_s]
  · obtain ⟨rfl, ho⟩ := h
    have g : ¬ nn n < nn n := fun q => by have := (nn_lt (j := n) (k := n) (by omega) (by omega)).mp q; omega
    unfold B_R_takesLaw_2
    rw [ok_ite, if_neg g, ok_rt]
    exact ho
  · obtain ⟨ho, r9, r20, r21, r22⟩ := q
    unfold K_R_takesLaw_105 K_R_takesLaw_107
    have s23 : K 223 = J 223 := ho 223 (by decide) (by decide) (by decide) (by decide)
    have s24 : K 224 = J 224 := ho 224 (by decide) (by decide) (by decide) (by decide)
    have s7 : K 207 = J 207 := ho 207 (by decide) (by decide) (by decide) (by decide)
    refine ok_mono (ok_lp (Q := fun (_ : Unit) (L : MI) => (∀ a, a ≠ 218 → a ≠ 223 → a ≠ 224 → L a = K a) ∧ L 218 = upd (K 218) 0 (nn n) ∧ L 223 = cqy (J 223) 800 c ∧ L 224 = cqy (J 224) 800 c) (fun k (y : Int32) (L : MI) => y = nn k ∧ (∀ a, a ≠ 223 → a ≠ 224 → L a = K a) ∧ L 223 = cqy (J 223) 800 k ∧ L 224 = cqy (J 224) 800 k) c (fun k y L hk h => ?_) (fun y L h => ?_) FU 0 K (by rw [FU_eq]; omega) ⟨rfl, fun _ _ _ => rfl, by rw [cqy_0, s23], by rw [cqy_0, s24]⟩) fun _ L q => ?_
    · obtain ⟨rfl, hl, l23, l24⟩ := h
      have s28 : L 207 28 = nn c := by rw [hl 207 (by decide) (by decide), s7]; exact h28
      have s27 : L 207 27 = 0 := by rw [hl 207 (by decide) (by decide), s7]; exact h27
      have g : nn k < nn c := (nn_lt (by omega) (by omega)).mpr hk
      have xd : (400 : Int32) * 0 + nn k = nn k := by rw [Int32.mul_zero, Int32.zero_add]
      have xs : (800 : Int32) + nn k = nn (800 + k) := nn_add 800 k
      have i1 : inR (nn k) 1200 = true := inR_nn (by omega) (by omega)
      have t1 : (nn k).toNatClampNeg = k := nn_nat (by omega)
      have i2 : inR (nn (800 + k)) 1200 = true := inR_nn (by omega) (by omega)
      have t2 : (nn (800 + k)).toNatClampNeg = 800 + k := nn_nat (by omega)
      unfold B_R_takesLaw_107
      simp (decide := true) only [ok_bn, ok_rd, s28, ok_ite, if_pos g, s27, ok_ld, ok_sr, xd, xs, i1, t1, i2, t2, bup_eq, bup_ne, ok_rt, nn_s, true_and, l23, l24]
      refine ⟨fun a h1 h2 => ?_, ?_, ?_⟩
      · rw [bup_ne _ _ h2, bup_ne _ _ h1]; exact hl a h1 h2
      · rw [cqy_r (by omega), cqy_s]
      · rw [cqy_r (by omega), cqy_s]
    · obtain ⟨rfl, hl, l23, l24⟩ := h
      have s28 : L 207 28 = nn c := by rw [hl 207 (by decide) (by decide), s7]; exact h28
      have s27 : L 207 27 = 0 := by rw [hl 207 (by decide) (by decide), s7]; exact h27
      have g : ¬ nn c < nn c := fun q => by have := (nn_lt (j := c) (k := c) (by omega) (by omega)).mp q; omega
      have i0 : inR (0 : Int32) 2 = true := by decide
      have t0 : (0 : Int32).toNatClampNeg = 0 := by decide
      unfold B_R_takesLaw_107
      simp (decide := true) only [ok_bn, ok_rd, s28, ok_ite, if_neg g, s27, ok_sr, i0, t0, bup_eq, bup_ne, ok_rt, true_and, l23, l24]
      exact ⟨fun a h1 h2 h3 => by rw [bup_ne _ _ h1]; exact hl a h2 h3, by rw [hl 218 (by decide) (by decide)], trivial⟩
    · obtain ⟨q1, q2, q3, q4⟩ := q
      refine ⟨fun a h1 h2 h3 h4 h5 h6 h7 => by rw [q1 a h1 h6 h7, ho a h2 h3 h4 h5], ?_, ?_, ?_, ?_, ?_, q3, q4⟩
      · rw [q2, ho 218 (by decide) (by decide) (by decide) (by decide)]
      · rw [q1 219 (by decide) (by decide) (by decide)]; exact r9
      · rw [q1 220 (by decide) (by decide) (by decide)]; exact r20
      · rw [q1 221 (by decide) (by decide) (by decide)]; exact r21
      · rw [q1 222 (by decide) (by decide) (by decide)]; exact r22
end TX99
