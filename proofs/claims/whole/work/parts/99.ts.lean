/-! text: how it begins, how it ends -/
section TB991
theorem kq_kp {a k : Nat} (h : kqJ a k = true) : kpJ a k = true := by
  by_cases e : a = 207
  · subst e
    have h2 : (!(decide (k = 0 ∨ k = 14 ∨ k = 15 ∨ k = 16 ∨ k = 17 ∨ k = 18 ∨ k = 27 ∨ k = 28 ∨ k = 29 ∨ k = 31 ∨ k = 32 ∨ k = 33 ∨ k = 34 ∨ k = 35))) = true := h
    show (!(decide (k = 15 ∨ k = 16 ∨ k = 17 ∨ k = 18 ∨ k = 28 ∨ k = 29 ∨ k = 31 ∨ k = 32 ∨ k = 33))) = true
    rw [Bool.not_eq_true', decide_eq_false_iff_not] at h2 ⊢
    intro z
    apply h2
    omega
  · unfold kqJ at h
    rw [if_neg e] at h
    exact h
theorem kc_kp {a k : Nat} (h : kpC a k = true) : kpI a k = true := by
  unfold kpC at h
  rw [Bool.and_eq_true] at h
  exact h.2
theorem kc_no {a k : Nat} (h : kpC a k = true) : a ≠ 93 ∧ a ≠ 107 ∧ a ≠ 108 ∧ a ≠ 109 := by
  unfold kpC at h
  rw [Bool.and_eq_true, Bool.not_eq_true', decide_eq_false_iff_not] at h
  exact ⟨fun e => h.1 (Or.inl e), fun e => h.1 (Or.inr (Or.inl e)), fun e => h.1 (Or.inr (Or.inr (Or.inl e))), fun e => h.1 (Or.inr (Or.inr (Or.inr e)))⟩
theorem fr_end {I J I3 J1 I4 J4 L : MI} (hr : Rl I J) (hIf : ∀ a k, kpC a k = true → I3 a k = I a k) (hJf : ∀ a k, kqJ a k = true → J1 a k = J a k) (h0 : I3 93 0 = 0) (f1 : FI I3 I4) (f2 : FJ J1 J4) (hL : ∀ a k, kqJ a k = true → L a k = J4 a k) (t14 : L 207 14 = 0) (t34 : L 207 34 = I4 93 1) (t35 : L 207 35 = I4 93 2) : Rl I4 L :=
  rl_mid hr (fun a k h => by rw [f1 a k (kc_kp h), hIf a k h]) (fun a k h => by rw [hL a k h, f2 a k (kq_kp h), hJf a k h]) (by rw [f1 93 0 rfl, h0]) t14 t34 t35
/-- the class's head, the reference's head -/
theorem head_A {I : MI} {n : Nat} (h0 : I 93 0 = nn n) : ∃ I1, (∀ x, F_Reader_read x I = (bn (F_A_within x 0 3) fun v2 => (if v2 = 0 then rt (-1 : Int32) else bn (F_Reader_cutIntoTokens (nn n)) fun _ => bn (F_Texts_clear 94 x) fun _ => K_Reader_read_46 x 0)) I1) ∧ (∀ a, a ≠ 93 → I1 a = I a) ∧ I1 93 0 = 0 ∧ I1 93 1 = 0 ∧ I1 93 2 = -1 := by
  obtain ⟨K2, e2⟩ : ∃ K2, K2 = bup (bup I 93 (upd (I 93) 1 0)) 93 (upd (bup I 93 (upd (I 93) 1 0) 93) 2 (-1)) := ⟨_, rfl⟩
  have z0 : K2 93 0 = nn n := by rw [e2, bup_eq, upd_ne _ _ (by decide), bup_eq, upd_ne _ _ (by decide)]; exact h0
  have z1 : K2 93 1 = 0 := by rw [e2, bup_eq, upd_ne _ _ (by decide), bup_eq, upd_eq]
  have z2 : K2 93 2 = -1 := by rw [e2, bup_eq, upd_eq]
  refine ⟨bup K2 93 (upd (K2 93) 0 0), fun x => ?_, fun a ha => ?_, by rw [bup_eq, upd_eq], by rw [bup_eq, upd_ne _ _ (by decide)]; exact z1, by rw [bup_eq, upd_ne _ _ (by decide)]; exact z2⟩
  · unfold F_Reader_read
    rw [bn_wr, bn_wr, ← e2, bn_rd, z0, bn_wr]
  · rw [bup_ne _ _ ha, e2, bup_ne _ _ ha, bup_ne _ _ ha]
def txtT (x : Int32) : Int32 → M Int32 := fun v2 =>
    (if v2 = (-1 : Int32) then
      bn (rd 207 32) fun v3 =>
      bn (wr 207 34 v3) fun _ =>
      bn (rd 207 33) fun v4 =>
      bn (wr 207 35 v4) fun _ =>
      K_R_text_69 x v2
    else
      K_R_text_69 x v2)
theorem head_R (J : MI) : ∃ J1, (∀ x, F_R_text x J = (bn (F_R_isIn x 0 3) fun v1 => (if v1 = 0 then K_R_text_69 x (-1) else bn (F_R_readsText x) (txtT x))) J1) ∧ (∀ a, a ≠ 207 → J1 a = J a) ∧ (∀ k, k ≠ 0 → k ≠ 34 → k ≠ 35 → k ≠ 15 → k ≠ 28 → k ≠ 29 → J1 207 k = J 207 k) ∧ J1 207 34 = 0 ∧ J1 207 35 = -1 ∧ J1 207 15 = 0 ∧ J1 207 28 = 0 ∧ J1 207 29 = 0 := by
  obtain ⟨K1, e1⟩ : ∃ K1, K1 = bup J 207 (upd (J 207) 0 0) := ⟨_, rfl⟩
  obtain ⟨K2, e2⟩ : ∃ K2, K2 = bup K1 207 (upd (K1 207) 34 0) := ⟨_, rfl⟩
  obtain ⟨K3, e3⟩ : ∃ K3, K3 = bup K2 207 (upd (K2 207) 35 (-1)) := ⟨_, rfl⟩
  obtain ⟨K4, e4⟩ : ∃ K4, K4 = bup K3 207 (upd (K3 207) 15 0) := ⟨_, rfl⟩
  obtain ⟨K5, e5⟩ : ∃ K5, K5 = bup K4 207 (upd (K4 207) 28 0) := ⟨_, rfl⟩
  obtain ⟨K6, e6⟩ : ∃ K6, K6 = bup K5 207 (upd (K5 207) 29 0) := ⟨_, rfl⟩
  refine ⟨K6, fun x => ?_, fun a ha => ?_, fun k h1 h2 h3 h4 h5 h6 => ?_, ?_, ?_, ?_, ?_, ?_⟩
  · unfold F_R_text
    rw [bn_wr, ← e1, bn_wr, ← e2, bn_wr, ← e3, bn_wr, ← e4, bn_wr, ← e5, bn_wr, ← e6]
    rfl
  · rw [e6, bup_ne _ _ ha, e5, bup_ne _ _ ha, e4, bup_ne _ _ ha, e3, bup_ne _ _ ha, e2, bup_ne _ _ ha, e1, bup_ne _ _ ha]
  · rw [e6, bup_eq, upd_ne _ _ h6, e5, bup_eq, upd_ne _ _ h5, e4, bup_eq, upd_ne _ _ h4, e3, bup_eq, upd_ne _ _ h3, e2, bup_eq, upd_ne _ _ h2, e1, bup_eq, upd_ne _ _ h1]
  · rw [e6, bup_eq, upd_ne _ _ (by decide), e5, bup_eq, upd_ne _ _ (by decide), e4, bup_eq, upd_ne _ _ (by decide), e3, bup_eq, upd_ne _ _ (by decide), e2, bup_eq, upd_eq]
  · rw [e6, bup_eq, upd_ne _ _ (by decide), e5, bup_eq, upd_ne _ _ (by decide), e4, bup_eq, upd_ne _ _ (by decide), e3, bup_eq, upd_eq]
  · rw [e6, bup_eq, upd_ne _ _ (by decide), e5, bup_eq, upd_ne _ _ (by decide), e4, bup_eq, upd_eq]
  · rw [e6, bup_eq, upd_ne _ _ (by decide), e5, bup_eq, upd_eq]
  · rw [e6, bup_eq, upd_eq]
def rdT (x : Int32) : M Int32 :=
  (if x = (1 : Int32) then
    bn (F_R_readShares) fun v4 =>
    rt v4
  else
    (if x = (2 : Int32) then
      bn (F_R_readDiary) fun v3 =>
      rt v3
    else
      (if x = (3 : Int32) then
        bn (F_R_readStreets) fun v2 =>
        rt v2
      else
        bn (F_R_readLaw) fun v1 =>
        rt v1)))
/-- all that is ready when the first line begins -/
theorem txt_pre {I J : MI} (hr : Rl I J) {x : Int32} (hx1 : ¬ x < 0) (hx2 : ¬ 3 < x) {P : MI → Prop} (cl : ∀ I2 : MI, ∃ I3, F_Texts_clear 94 x I2 = some ((), I3) ∧ (∀ a k, kpI a k = true → I3 a k = I2 a k) ∧ I3 93 = I2 93 ∧ P I3) : ∃ (X : CX) (I3 J1 J2 : MI), Cxt X ∧ X.2.2.2.1 = I3 ∧ X.2.2.2.2 = J1 ∧ LK X (fun _ _ => True) 0 I3 J2 ∧ P I3 ∧ J2 207 28 = nn 0 ∧ J2 207 29 = nn 0 ∧ F_Reader_read x I = lp (B_Reader_read_46 x) FU 0 I3 ∧ F_R_text x J = bn (rdT x) (txtT x) J2 ∧ (∀ a k, kpC a k = true → I3 a k = I a k) ∧ (∀ a k, kqJ a k = true → J1 a k = J a k) ∧ I3 93 0 = 0 ∧ J1 207 34 = 0 ∧ J1 207 35 = -1 ∧ J1 207 27 = 0 := by
  obtain ⟨-, ⟨⟨n, hn, i93, j14⟩, hch, -, -⟩, -, -, hc⟩ := id hr
  obtain ⟨I1, eA, a1, a2, a3, a4⟩ := head_A i93
  obtain ⟨Jh, eR, r1, r2, r3, r4, r5, r6, r7⟩ := head_R J
  obtain ⟨u, I2, c1, C, c2, c3, c4, c5, c6, c7, c8⟩ := cut_A (I := I1) hn
  obtain ⟨I3, d1, d2, d3, d4⟩ := cl I2
  have e106 : I1 106 = I 106 := a1 106 (by decide)
  rw [e106] at c3 c4 c5
  obtain ⟨J1, eJ1⟩ : ∃ J1, J1 = bup Jh 207 (upd (Jh 207) 27 0) := ⟨_, rfl⟩
  have j1 : ∀ a, a ≠ 207 → J1 a = J a := fun a ha => by rw [eJ1, bup_ne _ _ ha, r1 a ha]
  have j7 : ∀ k, k ≠ 27 → J1 207 k = Jh 207 k := fun k hk => by rw [eJ1, bup_eq, upd_ne _ _ hk]
  have hX : Cxt (I 106, n, C, I3, J1) := by
    refine ⟨hn, c2, ⟨?_, fun k hk => ?_⟩, c4, c5, ?_, fun k hk => ?_, fun k hk => ?_, fun k hk => ?_⟩
    · show I3 93 9 = _
      rw [d3]; exact c3.1
    · show I3 107 k = _ ∧ I3 108 k = _ ∧ I3 109 k = _
      rw [d2 107 k rfl, d2 108 k rfl, d2 109 k rfl]
      exact c3.2 k hk
    · show J1 207 14 = _
      rw [j7 14 (by decide), r2 14 (by decide) (by decide) (by decide) (by decide) (by decide) (by decide)]; exact j14
    · show J1 216 k = I 106 k
      have hk2 : k < n := hk
      obtain ⟨c, _, z1, z2⟩ := hch k (by omega)
      rw [j1 216 (by decide), z1, z2]
    · show ¬ I 106 k = -1
      have hk2 : k < n := hk
      obtain ⟨c, z0, z1, z2⟩ := hch k (by omega)
      rw [z1]
      intro z
      have q := congrArg Int32.toInt z
      rw [nn_toInt (by omega)] at q
      have : ((-1 : Int32)).toInt = -1 := by decide
      omega
    · show J1 217 k = wdC k
      rw [j1 217 (by decide)]
      exact hc.2.2.2.2.1 k hk
  have hcA : cA (I 106, n, C, I3, J1) 0 I3 := ⟨by rw [d3]; exact c6, by rw [d3, c8 1 (by decide) (by decide)]; exact a3, by rw [d3, c8 2 (by decide) (by decide)]; exact a4, fun _ _ _ => rfl⟩
  obtain ⟨J2, g1, g2, g3⟩ := first_read hX hcA (fun _ _ _ => rfl : FJ J1 J1) (by rw [j7 15 (by decide)]; exact r5)
  refine ⟨_, I3, J1, J2, hX, rfl, rfl, g3, d4, ?_, ?_, ?_, ?_, fun a k h => ?_, fun a k h => ?_, ?_, ?_, ?_, ?_⟩
  · rw [g2.2 28 (by decide) (by decide) (by decide) (by decide), j7 28 (by decide)]; exact r6
  · rw [g2.2 29 (by decide) (by decide) (by decide) (by decide), j7 29 (by decide)]; exact r7
  · rw [eA x, wi_in hx1 hx2, bn_rt, if_neg one_ne, bn_of c1, bn_of d1]
    rfl
  · rw [eR x, ri_in hx1 hx2, bn_rt, if_neg one_ne]
    refine bn_cg ?_
    unfold F_R_readsText
    rw [bn_wr, ← eJ1, bn_of g1]
    rfl
  · obtain ⟨n1, n2, n3, n4⟩ := kc_no h
    rw [d2 a k (kc_kp h), c7 a n1 n2 n3 n4, a1 a n1]
  · by_cases e : a = 207
    · subst e
      have h2 : (!(decide (k = 0 ∨ k = 14 ∨ k = 15 ∨ k = 16 ∨ k = 17 ∨ k = 18 ∨ k = 27 ∨ k = 28 ∨ k = 29 ∨ k = 31 ∨ k = 32 ∨ k = 33 ∨ k = 34 ∨ k = 35))) = true := h
      rw [Bool.not_eq_true', decide_eq_false_iff_not] at h2
      rw [j7 k (by omega), r2 k (by omega) (by omega) (by omega) (by omega) (by omega) (by omega)]
    · rw [j1 a e]
  · rw [d3, c8 0 (by decide) (by decide)]; exact a2
  · rw [j7 34 (by decide)]; exact r3
  · rw [j7 35 (by decide)]; exact r4
  · rw [eJ1, bup_eq, upd_eq]
/-- how it ends when a line was not read, or all were -/
theorem txt_bad {I J I3 J1 I4 J4 : MI} {X : CX} (hr : Rl I J) (e3 : X.2.2.2.1 = I3) (e1 : X.2.2.2.2 = J1) (hIf : ∀ a k, kpC a k = true → I3 a k = I a k) (hJf : ∀ a k, kqJ a k = true → J1 a k = J a k) (h0 : I3 93 0 = 0) (hE : ER X I4 J4) (x : Int32) : ∃ L, txtT x (-1) J4 = some (-1, L) ∧ Rl I4 L := by
  obtain ⟨z1, z2, z3, z4⟩ := hE
  rw [e3] at z3
  rw [e1] at z4
  obtain ⟨K1, k1⟩ : ∃ K1, K1 = bup J4 207 (upd (J4 207) 34 (I4 93 1)) := ⟨_, rfl⟩
  obtain ⟨K2, k2⟩ : ∃ K2, K2 = bup K1 207 (upd (K1 207) 35 (I4 93 2)) := ⟨_, rfl⟩
  obtain ⟨K3, k3⟩ : ∃ K3, K3 = bup K2 207 (upd (K2 207) 14 0) := ⟨_, rfl⟩
  have y33 : K1 207 33 = I4 93 2 := by rw [k1, bup_eq, upd_ne _ _ (by decide), z2]
  refine ⟨K3, ?_, fr_end hr hIf hJf h0 z3 z4 (fun a k h => ?_) ?_ ?_ ?_⟩
  · unfold txtT
    rw [if_pos rfl, bn_rd, ← z1, bn_wr, ← k1, bn_rd, y33, bn_wr, ← k2]
    unfold K_R_text_69
    rw [bn_wr, ← k3, if_pos rfl]
    rfl
  · by_cases e : a = 207
    · subst e
      have h2 : (!(decide (k = 0 ∨ k = 14 ∨ k = 15 ∨ k = 16 ∨ k = 17 ∨ k = 18 ∨ k = 27 ∨ k = 28 ∨ k = 29 ∨ k = 31 ∨ k = 32 ∨ k = 33 ∨ k = 34 ∨ k = 35))) = true := h
      rw [Bool.not_eq_true', decide_eq_false_iff_not] at h2
      rw [k3, bup_eq, upd_ne _ _ (by omega), k2, bup_eq, upd_ne _ _ (by omega), k1, bup_eq, upd_ne _ _ (by omega)]
    · rw [k3, bup_ne _ _ e, k2, bup_ne _ _ e, k1, bup_ne _ _ e]
  · rw [k3, bup_eq, upd_eq]
  · rw [k3, bup_eq, upd_ne _ _ (by decide), k2, bup_eq, upd_ne _ _ (by decide), k1, bup_eq, upd_eq]
  · rw [k3, bup_eq, upd_ne _ _ (by decide), k2, bup_eq, upd_eq]
theorem txt_good {I J I3 J1 I4 J4 : MI} {X : CX} {D : MI → MI → Prop} {c : Nat} (hr : Rl I J) (e3 : X.2.2.2.1 = I3) (e1 : X.2.2.2.2 = J1) (hIf : ∀ a k, kpC a k = true → I3 a k = I a k) (hJf : ∀ a k, kqJ a k = true → J1 a k = J a k) (h0 : I3 93 0 = 0) (h34 : J1 207 34 = 0) (h35 : J1 207 35 = -1) (hL : LK X D c I4 J4) : ∃ L, L = bup J4 207 (upd (J4 207) 14 0) ∧ Rl I4 L := by
  obtain ⟨_, ⟨_, a1, a2, a3⟩, ⟨_, _, _, _, a4⟩, _⟩ := hL
  rw [e3] at a3
  rw [e1] at a4
  refine ⟨_, rfl, fr_end hr hIf hJf h0 a3 a4 (fun a k h => ?_) (by rw [bup_eq, upd_eq]) ?_ ?_⟩
  · by_cases e : a = 207
    · subst e
      have h2 : (!(decide (k = 0 ∨ k = 14 ∨ k = 15 ∨ k = 16 ∨ k = 17 ∨ k = 18 ∨ k = 27 ∨ k = 28 ∨ k = 29 ∨ k = 31 ∨ k = 32 ∨ k = 33 ∨ k = 34 ∨ k = 35))) = true := h
      rw [Bool.not_eq_true', decide_eq_false_iff_not] at h2
      rw [bup_eq, upd_ne _ _ (by omega)]
    · rw [bup_ne _ _ e]
  · rw [bup_eq, upd_ne _ _ (by decide), a4 207 34 rfl, h34, a1]
  · rw [bup_eq, upd_ne _ _ (by decide), a4 207 35 rfl, h35, a2]
end TB991
