/-! names: the class places its names -/
section NH99
def PO (L C : Nat → Nat) (I0 : MI) (x u : Nat) (p : Nat → Nat) (best : Nat) (K K2 : MI) : Prop := (∀ a, a ≠ 195 → a ≠ 198 → K2 a = I0 a) ∧ (∀ y, y < u → K2 198 y = K 198 y) ∧ ∃ b2, b2 ≤ best ∧ K2 195 4 = nn b2 ∧ (b2 = best ∨ PR L C b2) ∧ ∀ k c, Prp L C c → (∀ a, a < 10 → Act L C a → c a < k) → CST L C x p c → b2 ≤ k
theorem po_skip {L C : Nat → Nat} {I0 K K2 : MI} {x u best : Nat} {p : Nat → Nat} (hna : ¬ Act L C x) (q : PO L C I0 (x + 1) u p best K K2) : PO L C I0 x u p best K K2 := by
  obtain ⟨q1, q2, b2, q3, q4, q5, q6⟩ := q
  exact ⟨q1, q2, b2, q3, q4, q5, fun k c c1 c2 c3 => q6 k c c1 c2 (cst_skip c3 hna)⟩
theorem mk_skip {L C : Nat → Nat} {K : MI} {x u : Nat} {p : Nat → Nat} (hna : ¬ Act L C x) (hm : MSK L C x u p K) : MSK L C (x + 1) u p K := fun y hy => by
  obtain ⟨M, m1, m2, m3⟩ := hm y hy
  refine ⟨M, m1, m2, fun a ha => (m3 a ha).trans ⟨fun q => ⟨by omega, q.2⟩, fun q => ⟨?_, q.2⟩⟩⟩
  have : a ≠ x := fun e => hna (by rw [← e]; exact q.2.1)
  omega
theorem skips {L C : Nat → Nat} {K : MI} {u : Nat} {p : Nat → Nat} : ∀ (d x : Nat), x + d ≤ 10 → (∀ z, x ≤ z → z < x + d → ¬ Act L C z) → PS L C x u p → MSK L C x u p K → PS L C (x + d) u p ∧ MSK L C (x + d) u p K ∧ ∀ (I0 : MI) (best : Nat) (K2 : MI), PO L C I0 (x + d) u p best K K2 → PO L C I0 x u p best K K2 := by
  intro d
  induction d with
  | zero => intro x _ _ h1 h2; exact ⟨h1, h2, fun _ _ _ q => q⟩
  | succ d ih =>
    intro x hx hz h1 h2
    have hna := hz x (Nat.le_refl _) (by omega)
    have e : x + (d + 1) = x + 1 + d := by omega
    obtain ⟨r1, r2, r3⟩ := ih (x + 1) (by omega) (fun z a b => hz z (by omega) (by omega)) (ps_skip h1 (by omega) hna) (mk_skip hna h2)
    rw [e]
    exact ⟨r1, r2, fun I0 best K2 q => po_skip hna (r3 I0 best K2 q)⟩
theorem next_ok {C : Nat → Nat} {K : MI} (hC : ∀ y, y < 10 → K 197 y = nn (C y) ∧ C y < 1024) {x : Nat} (hx : x ≤ 10) : Ok (F_Riddles_nextApart (nn x)) K fun v K2 => K2 = K ∧ ∃ d, x + d ≤ 10 ∧ v = nn (x + d) ∧ (∀ z, x ≤ z → z < x + d → C z = 0) ∧ (x + d < 10 → C (x + d) ≠ 0) := by
  unfold F_Riddles_nextApart K_Riddles_nextApart_2
  refine ok_lp (fun k y K2 => y = nn (x + k) ∧ K2 = K ∧ x + k ≤ 10 ∧ ∀ z, x ≤ z → z < x + k → C z = 0) (10 - x) (fun k y K2 hk hP => ?_) (fun y K2 hP => ?_) FU (nn x) K (by rw [FU_eq]; omega) ⟨rfl, rfl, hx, fun z a b => absurd b (by omega)⟩
  · obtain ⟨rfl, rfl, hb, hz⟩ := hP
    have g1 : nn (x + k) < 10 := (nn_lt (k := 10) (by omega) (by omega)).mpr (by omega)
    have ix : inR (nn (x + k)) 10 = true := inR_nn (by omega) (by omega)
    have tx : (nn (x + k)).toNatClampNeg = x + k := nn_nat (by omega)
    have e7 := (hC (x + k) (by omega)).1
    unfold B_Riddles_nextApart_2
    by_cases hCx : C (x + k) = 0
    · have gC : nn (C (x + k)) = 0 := by rw [hCx]; rfl
      simp only [ok_ite, if_pos g1, ok_bn, ok_ld, ix, tx, e7, if_pos gC, ok_rt, nn_s, true_and]
      refine ⟨by rw [Nat.add_assoc], by omega, fun z a b => ?_⟩
      by_cases e : z = x + k
      · rw [e]; exact hCx
      · exact hz z a (by omega)
    · have gC : ¬ nn (C (x + k)) = 0 := nn_ne (k := 0) (by have := (hC (x + k) (by omega)).2; omega) (by omega) hCx
      simp only [ok_ite, if_pos g1, ok_bn, ok_ld, ix, tx, e7, if_neg gC, ok_rt, true_and]
      exact ⟨k, hb, rfl, hz, fun _ => hCx⟩
  · obtain ⟨rfl, rfl, hb, hz⟩ := hP
    have e10 : x + (10 - x) = 10 := by omega
    rw [e10] at hz hb ⊢
    have g1 : ¬ nn 10 < (10 : Int32) := by decide
    unfold B_Riddles_nextApart_2
    rw [ok_ite, if_neg g1, ok_rt]
    exact ⟨rfl, 10 - x, by omega, by rw [e10], fun z a b => hz z a (by omega), fun h => absurd h (by omega)⟩
theorem try_ok {L C : Nat → Nat} {I0 : MI} (hL : ∀ y, y < 10 → I0 196 y = nn (L y) ∧ L y < 10) (hC : ∀ y, y < 10 → I0 197 y = nn (C y) ∧ C y < 1024) (sym : ∀ a b, a < 10 → b < 10 → ((C a).testBit b = true ↔ (C b).testBit a = true)) (irr : ∀ a, a < 10 → ¬ (C a).testBit a = true) {n : Nat} (ih : ∀ (x2 u2 : Nat) (p2 : Nat → Nat) (K2 : MI) (best2 : Nat), 13 ≤ n + x2 → PS L C x2 u2 p2 → best2 ≤ 10 → (∀ a, a ≠ 195 → a ≠ 198 → K2 a = I0 a) → K2 195 4 = nn best2 → MSK L C x2 u2 p2 K2 → Ok (G_Riddles_placeName n (nn x2) (nn u2)) K2 fun _ K3 => PO L C I0 x2 u2 p2 best2 K2 K3) {x u best : Nat} {p : Nat → Nat} {K : MI} (hn : 13 ≤ n + (x + 1)) (hps : PS L C x u p) (hx : x < 10) (hAct : Act L C x) (hub : u < best) (hbest : best ≤ 10) (hK : ∀ a, a ≠ 195 → a ≠ 198 → K a = I0 a) (hb : K 195 4 = nn best) (hm : MSK L C x u p K) : Ok (K_Riddles_tryPersons_0 (G_Riddles_placeName n) (nn x) (nn u)) K fun _ K2 => PO L C I0 x u p best K K2 := by
  obtain ⟨h1, h2, h3, h4, h5⟩ := id hps
  have ix : inR (nn x) 10 = true := inR_nn hx (by omega)
  have tx : (nn x).toNatClampNeg = x := nn_nat (by omega)
  have cx := (hC x hx).2
  unfold K_Riddles_tryPersons_0 K_Riddles_tryPersons_2
  have px : (2 : Nat) ^ x < 2 ^ 10 := Nat.pow_lt_pow_right (by decide) hx
  -- one branch
  have branch : ∀ (y M bj : Nat) (Kj : MI), y ≤ u → bj ≤ 10 → M < 1024 → (∀ a, a < 10 → (M.testBit a = true ↔ a < x ∧ Act L C a ∧ p a = y)) → (∀ b, b < x → Act L C b → p b = y → ¬ (C x).testBit b = true) → (∀ a, a ≠ 195 → a ≠ 198 → Kj a = I0 a) → Kj 195 4 = nn bj → (∀ z, z < u → Kj 198 z = K 198 z) → Ok (G_Riddles_placeName n (nn (x + 1)) (nn (max u (y + 1)))) (bup Kj 198 (upd (Kj 198) y (nn (M ||| 2 ^ x)))) fun _ K2 => PO L C I0 (x + 1) (max u (y + 1)) (upN p x y) bj (bup Kj 198 (upd (Kj 198) y (nn (M ||| 2 ^ x)))) K2 := fun y M bj Kj hy hbj hM1 hM2 hno hKj hbj2 hrow => by
    refine ih (x + 1) (max u (y + 1)) (upN p x y) _ bj (by omega) (ps_add hps hx hy hAct sym irr hno) hbj (fun a n1 n2 => ?_) ?_ fun z hz => ?_
    · rw [bup_ne _ _ n2]; exact hKj a n1 n2
    · rw [bup_ne _ _ (by decide)]; exact hbj2
    · by_cases e : z = y
      · subst e
        refine ⟨M ||| 2 ^ x, Nat.or_lt_two_pow (n := 10) hM1 px, by rw [bup_eq, upd_eq], fun a ha => ?_⟩
        rw [tb_or2, Bool.or_eq_true, decide_eq_true_eq, hM2 a ha]
        constructor
        · rintro (⟨q1, q2, q3⟩ | q)
          · exact ⟨by omega, q2, by rw [upN_ne _ _ (by omega)]; exact q3⟩
          · rw [← q]; exact ⟨by omega, hAct, upN_eq _ _ _⟩
        · rintro ⟨q1, q2, q3⟩
          by_cases e2 : a = x
          · exact Or.inr e2.symm
          · rw [upN_ne _ _ e2] at q3; exact Or.inl ⟨by omega, q2, q3⟩
      · have hzu : z < u := by omega
        obtain ⟨M2, m1, m2, m3⟩ := hm z hzu
        refine ⟨M2, m1, by rw [bup_eq, upd_ne _ _ e, hrow z hzu]; exact m2, fun a ha => (m3 a ha).trans ⟨fun q => ⟨by omega, q.2.1, by rw [upN_ne _ _ (by omega)]; exact q.2.2⟩, fun q => ?_⟩⟩
        by_cases e2 : a = x
        · rw [e2, upN_eq] at q; exact absurd q.2.2.symm e
        · rw [upN_ne _ _ e2] at q; exact ⟨by omega, q.2.1, q.2.2⟩
  refine ok_lp (fun j y Kj => y = nn j ∧ (∀ a, a ≠ 195 → a ≠ 198 → Kj a = I0 a) ∧ (∀ z, z < u → Kj 198 z = K 198 z) ∧ ∃ bj, bj ≤ best ∧ Kj 195 4 = nn bj ∧ (bj = best ∨ PR L C bj) ∧ ∀ k c, Prp L C c → (∀ a, a < 10 → Act L C a → c a < k) → CST L C x p c → ((∃ a, a < x ∧ Act L C a ∧ p a < j ∧ c a = c x) ∨ (u < j ∧ ∀ a, a < x → Act L C a → c a ≠ c x)) → bj ≤ k) (u + 1) (fun j y Kj hj hP => ?_) (fun y Kj hP => ?_) FU 0 K (by rw [FU_eq]; omega) ⟨rfl, hK, fun _ _ => rfl, best, Nat.le_refl _, hb, Or.inl rfl, fun k c _ _ _ q => by
    rcases q with ⟨a, -, -, q, -⟩ | ⟨q, -⟩ <;> exact absurd q (by omega)⟩
  · obtain ⟨rfl, i1, i2, bj, i3, i4, i5, i6⟩ := hP
    have g1 : ¬ nn u < nn j := fun q => by have := (nn_lt (by omega) (by omega)).mp q; omega
    have g2 : nn j < 10 := (nn_lt (k := 10) (by omega) (by omega)).mpr (by omega)
    have ij : inR (nn j) 10 = true := inR_nn (by omega) (by omega)
    have tj : (nn j).toNatClampNeg = j := nn_nat (by omega)
    have e7j : Kj 197 x = nn (C x) := by rw [i1 197 (by decide) (by decide)]; exact (hC x hx).1
    have em : (if nn u < nn (j + 1) then nn (j + 1) else nn u) = nn (max u (j + 1)) := by
      by_cases q : u < j + 1
      · rw [if_pos ((nn_lt (by omega) (by omega)).mpr q), Nat.max_eq_right (by omega)]
      · rw [if_neg (fun z => q ((nn_lt (by omega) (by omega)).mp z)), Nat.max_eq_left (by omega)]
    have eo : ∀ M, M < 1024 → nn M ||| ((1 : Int32) <<< (nn x &&& 31)) = nn (M ||| 2 ^ x) := fun M hM => by rw [shl_nn (by omega), or_nn (by omega) (by omega)]
    refine ok_mono (Q := fun r I3 => r = .inl (nn (j + 1)) ∧ (∀ a, a ≠ 195 → a ≠ 198 → I3 a = I0 a) ∧ (∀ z, z < u → I3 198 z = K 198 z) ∧ ∃ bj, bj ≤ best ∧ I3 195 4 = nn bj ∧ (bj = best ∨ PR L C bj) ∧ ∀ k c, Prp L C c → (∀ a, a < 10 → Act L C a → c a < k) → CST L C x p c → ((∃ a, a < x ∧ Act L C a ∧ p a < j + 1 ∧ c a = c x) ∨ (u < j + 1 ∧ ∀ a, a < x → Act L C a → c a ≠ c x)) → bj ≤ k) ?_ fun r I3 q => by
      obtain ⟨rfl, q⟩ := q
      exact ⟨rfl, q⟩
    have fin : ∀ (K2 : MI) (v : Int32), (j < u → v = K 198 j) → PO L C I0 (x + 1) (max u (j + 1)) (upN p x j) bj (bup Kj 198 (upd (Kj 198) j (v ||| ((1 : Int32) <<< (nn x &&& 31))))) K2 → (∀ a, a ≠ 195 → a ≠ 198 → (bup K2 198 (upd (K2 198) j v)) a = I0 a) ∧ (∀ z, z < u → (bup K2 198 (upd (K2 198) j v)) 198 z = K 198 z) ∧ ∃ bj, bj ≤ best ∧ (bup K2 198 (upd (K2 198) j v)) 195 4 = nn bj ∧ (bj = best ∨ PR L C bj) ∧ ∀ k c, Prp L C c → (∀ a, a < 10 → Act L C a → c a < k) → CST L C x p c → ((∃ a, a < x ∧ Act L C a ∧ p a < j + 1 ∧ c a = c x) ∨ (u < j + 1 ∧ ∀ a, a < x → Act L C a → c a ≠ c x)) → bj ≤ k := fun K2 v hv q => by
      obtain ⟨q1, q2, b2, q3, q4, q5, q6⟩ := q
      refine ⟨fun a n1 n2 => ?_, fun z hz => ?_, b2, by omega, ?_, ?_, fun k c c1 c2 c3 c4 => ?_⟩
      · rw [bup_ne _ _ n2]; exact q1 a n1 n2
      · rw [bup_eq]
        by_cases e : z = j
        · rw [e, upd_eq]; exact hv (by omega)
        · rw [upd_ne _ _ e, q2 z (by omega), bup_eq, upd_ne _ _ e]; exact i2 z hz
      · rw [bup_ne _ _ (by decide)]; exact q4
      · rcases q5 with q5 | q5
        · rw [q5]; exact i5
        · exact Or.inr q5
      · rcases c4 with ⟨a, a1, a2, a3, a4⟩ | ⟨a1, a2⟩
        · by_cases e : p a < j
          · have := i6 k c c1 c2 c3 (Or.inl ⟨a, a1, a2, e, a4⟩)
            omega
          · exact q6 k c c1 c2 (cst_old c3 a1 a2 (by omega) a4)
        · have e : j = u := by omega
          subst e
          exact q6 k c c1 c2 (cst_new c3 h3 a2)
    unfold B_Riddles_tryPersons_2
    by_cases hju : j < u
    · have g3 : nn j < nn u := (nn_lt (by omega) (by omega)).mpr hju
      obtain ⟨M, m1, m2, m3⟩ := hm j hju
      have e8 : Kj 198 j = nn M := by rw [i2 j hju]; exact m2
      have az := and_z m1 cx
      by_cases hz : nn M &&& nn (C x) = 0
      · have br := branch j M bj Kj (by omega) (by omega) m1 m3 (fun b b1 b2 b3 q => az.mp hz b (by omega) ⟨(m3 b (by omega)).mpr ⟨b1, b2, b3⟩, q⟩) i1 i4 i2
        rw [← eo M m1] at br
        obtain ⟨_, K2, r1, r2⟩ := br
        have f2 := fin K2 (nn M) (fun h => m2.symm) r2
        simp only [ok_ite, if_neg g1, if_pos g2, if_pos g3, ok_bn, ok_ld, ij, tj, e8, ix, tx, e7j, if_pos hz, ok_sr, nn_s x, em, ok_eq r1, ok_rt, nn_s j, true_and]
        exact f2
      · simp only [ok_ite, if_neg g1, if_pos g2, if_pos g3, ok_bn, ok_ld, ij, tj, e8, ix, tx, e7j, if_neg hz, ok_rt, nn_s j, true_and]
        refine ⟨i1, i2, bj, i3, i4, i5, fun k c c1 c2 c3 c4 => ?_⟩
        rcases c4 with ⟨a, a1, a2, a3, a4⟩ | ⟨a1, a2⟩
        · by_cases e : p a < j
          · exact i6 k c c1 c2 c3 (Or.inl ⟨a, a1, a2, e, a4⟩)
          · refine absurd (az.mpr fun b hb q => ?_) hz
            obtain ⟨b1, b2, b3⟩ := (m3 b hb).mp q.1
            have e2 := (c3 b a b1 a1 b2 a2).mp (by omega)
            exact c1 x b hx hb hAct b2 q.2 (by rw [e2, a4])
        · omega
    · have e : j = u := by omega
      have g3 : ¬ nn j < nn u := fun q => hju ((nn_lt (by omega) (by omega)).mp q)
      have z1 : (0 : Int32) &&& nn (C x) = 0 := by
        have q := (and_z (A := 0) (B := C x) (by decide) cx).mpr fun b _ h => by rw [Nat.zero_testBit] at h; exact absurd h.1 (by decide)
        exact q
      have br := branch j 0 bj Kj (by omega) (by omega) (by decide) (fun a ha => ⟨(fun h => by rw [Nat.zero_testBit] at h; cases h), (fun h => by have := h3 a h.1 h.2.1; omega)⟩) (fun b b1 b2 b3 q => by have := h3 b b1 b2; omega) i1 i4 i2
      rw [← eo 0 (by decide)] at br
      have z0 : nn 0 = (0 : Int32) := rfl
      rw [z0] at br
      obtain ⟨_, K2, r1, r2⟩ := br
      have f2 := fin K2 0 (fun h => absurd h hju) r2
      simp only [ok_ite, if_neg g1, if_pos g2, if_neg g3, ok_bn, ok_ld, ij, tj, ix, tx, e7j, if_pos z1, ok_sr, nn_s x, em, ok_eq r1, ok_rt, nn_s j, true_and]
      exact f2
  · obtain ⟨rfl, i1, i2, bj, i3, i4, i5, i6⟩ := hP
    have g1 : nn u < nn (u + 1) := (nn_lt (by omega) (by omega)).mpr (by omega)
    unfold B_Riddles_tryPersons_2
    rw [ok_ite, if_pos g1, ok_rt]
    refine ⟨i1, i2, bj, i3, i4, i5, fun k c c1 c2 c3 => i6 k c c1 c2 c3 ?_⟩
    by_cases hE : ∃ a, a < x ∧ Act L C a ∧ c a = c x
    · obtain ⟨a, a1, a2, a3⟩ := hE
      have := h3 a a1 a2
      exact Or.inl ⟨a, a1, a2, by omega, a3⟩
    · exact Or.inr ⟨by omega, fun a a1 a2 a3 => hE ⟨a, a1, a2, a3⟩⟩
theorem place_ok {L C : Nat → Nat} {I0 : MI} (hL : ∀ y, y < 10 → I0 196 y = nn (L y) ∧ L y < 10) (hC : ∀ y, y < 10 → I0 197 y = nn (C y) ∧ C y < 1024) (sym : ∀ a b, a < 10 → b < 10 → ((C a).testBit b = true ↔ (C b).testBit a = true)) (irr : ∀ a, a < 10 → ¬ (C a).testBit a = true) (hLd : ∀ y, y < 10 → C y ≠ 0 → L y = y) : ∀ (n x u : Nat) (p : Nat → Nat) (K : MI) (best : Nat), 13 ≤ n + x → PS L C x u p → best ≤ 10 → (∀ a, a ≠ 195 → a ≠ 198 → K a = I0 a) → K 195 4 = nn best → MSK L C x u p K → Ok (G_Riddles_placeName n (nn x) (nn u)) K fun _ K2 => PO L C I0 x u p best K K2 := by
  intro n
  induction n with
  | zero =>
    intro x u p K best hn h
    obtain ⟨-, h2, -⟩ := h
    omega
  | succ n ih =>
    intro x u p K best hn hps hbest hK hb hm
    show Ok (K_Riddles_placeName_0 (K_Riddles_tryPersons_0 (G_Riddles_placeName n)) (nn x) (nn u)) K _
    unfold K_Riddles_placeName_0
    have hx10 : x ≤ 10 := hps.2.1
    have hux : u ≤ x := hps.1
    by_cases hub : u < best
    · have gub : nn u < nn best := (nn_lt (by omega) (by omega)).mpr hub
      have nx := next_ok (C := C) (K := K) (fun y hy => ⟨by rw [hK 197 (by decide) (by decide)]; exact (hC y hy).1, (hC y hy).2⟩) hx10
      obtain ⟨v, K1, e1, rfl, d, d1, rfl, d2, d3⟩ := nx
      obtain ⟨s1, s2, s3⟩ := skips (K := K1) d x d1 (fun z a b h => h.2 (d2 z a b)) hps hm
      by_cases hx : x + d < 10
      · have gx : nn (x + d) < 10 := (nn_lt (k := 10) (by omega) (by omega)).mpr hx
        have t := try_ok hL hC sym irr (n := n) ih (by omega) s1 hx ⟨hLd _ hx (d3 hx), d3 hx⟩ hub hbest hK hb s2
        obtain ⟨_, K2, t1, t2⟩ := t
        simp only [ok_bn, ok_rd, hb, ok_ite, if_pos gub, ok_eq e1, if_pos gx, ok_eq t1, ok_rt]
        exact s3 I0 best K2 t2
      · have ex : x + d = 10 := by omega
        have gx : ¬ nn (x + d) < 10 := by rw [ex]; decide
        simp only [ok_bn, ok_rd, hb, ok_ite, if_pos gub, ok_eq e1, if_neg gx, ok_wr, ok_rt]
        refine s3 I0 best _ ?_
        rw [ex] at s1 ⊢
        obtain ⟨h1, h2, h3, h4, h5⟩ := id s1
        refine ⟨fun a n1 n2 => ?_, fun y hy => ?_, u, by omega, ?_, Or.inr ⟨p, fun a b a1 b1 a2 b2 h => h4 a b a1 b1 a2 b2 h, fun a a1 a2 => h3 a a1 a2⟩, fun k c c1 c2 c3 => php s1 c2 c3⟩
        · rw [bup_ne _ _ n1]; exact hK a n1 n2
        · rw [bup_ne _ _ (by decide)]
        · rw [bup_eq, upd_eq]
    · have gub : ¬ nn u < nn best := fun q => hub ((nn_lt (by omega) (by omega)).mp q)
      simp only [ok_bn, ok_rd, hb, ok_ite, if_neg gub, ok_rt]
      exact ⟨hK, fun _ _ => rfl, best, Nat.le_refl _, hb, Or.inl rfl, fun k c c1 c2 c3 => by have := php hps c2 c3; omega⟩
end NH99
