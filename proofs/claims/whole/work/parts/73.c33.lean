/-! a text's worth -/
section SC33
def WP (I J : MI) (z : Nat) (f m i : Nat) (x : Int32 × Int32) (I1 : MI) (y : Int32 × Int32) (J1 : MI) : Prop := ∃ st, tyRun (J 223) (J 224) (f + i) (m - f - i) st = some [z] ∧ st.length ≤ 40 ∧ x = (nn st.length, nn (f + i)) ∧ y = (nn st.length, nn (f + i)) ∧ SK st I1 J1 ∧ (∀ c, c ≠ 20 → I1 c = I c) ∧ ∀ c, c ≠ 230 → J1 c = J c
theorem wp_fin {I J I1 J1 : MI} {z f m i t : Nat} {r : List Nat} {V : Int32} (hr : r.length < 40) (hs : SK r I1 J1) (h1 : t = 1 → V = 0 ∨ V = 1) (h2 : t = 2 → ¬ V = 0) (ht : tyRun (J 223) (J 224) (f + i + 1) (m - f - (i + 1)) (t :: r) = some [z]) (f1 : ∀ c, c ≠ 20 → I1 c = I c) (f2 : ∀ c, c ≠ 230 → J1 c = J c) : WP I J z f m (i + 1) (nn (r.length + 1), nn (f + i + 1)) (bup I1 20 (upd (I1 20) r.length V)) (nn (r.length + 1), nn (f + i + 1)) (bup J1 230 (upd (J1 230) r.length V)) := by
  refine ⟨t :: r, ht, ?_, rfl, rfl, SK_push hs h1 h2, fun c hc => ?_, fun c hc => ?_⟩
  · rw [List.length_cons]; omega
  · rw [bup_ne _ _ hc]; exact f1 c hc
  · rw [bup_ne _ _ hc]; exact f2 c hc
theorem worth_s {I J : MI} {w a f m z : Nat} {wv : Nat → Int32} (hm : m ≤ 400)
    (hc : ∀ k, f ≤ k → k < m → isInt9 (J 223 k) (J 224 k) ∧ I 19 k = codOf (J 223 k) (J 224 k))
    (hA : ∀ K : MI, (∀ c, c ≠ 20 → K c = I c) → ∀ j, j < 9 → F_Law_wordWorth w (nn a) (nn (7 + j)) K = some (wv j, K))
    (hR : ∀ j, j < 9 → J 229 j = wv j) {Q : Int32 ⊕ Int32 → MI → Int32 → MI → Prop}
    (i : Nat) (x : Int32 × Int32) (I1 : MI) (y : Int32 × Int32) (J1 : MI) (hi : i < m - f) (hP : WP I J z f m i x I1 y J1) : Ok (B_Law_worth_6 16 w (nn a) (nn m) x) I1 fun r I2 => Ok (B_R_runs_12 0 (nn m) y) J1 fun s J2 => sdQ (WP I J z f m (i + 1)) Q r I2 s J2 := by
  obtain ⟨st, ht, hl, rfl, rfl, hs, f1, f2⟩ := hP
  have g1 : ¬ nn (f + i) < 0 := nn_neg (by omega)
  have g2 : nn (f + i) < nn m := (nn_lt (by omega) (by omega)).mpr (by omega)
  have g3 : nn (f + i) < Int32.ofNat 400 := (nn_lt (k := 400) (by omega) (by omega)).mpr (by omega)
  have g4 : (400 : Int32) * 0 + nn m = nn m := by
    have e : (400 : Int32) * 0 = nn 0 := by decide
    rw [e, nn_add, Nat.zero_add]
  have i1 : inR (nn (f + i)) 400 = true := inR_nn (by omega) (by omega)
  have i2 : inR (nn (f + i)) 1200 = true := inR_nn (by omega) (by omega)
  have t1 : (nn (f + i)).toNatClampNeg = f + i := nn_nat (by omega)
  obtain ⟨hq, hco⟩ := hc (f + i) (by omega) (by omega)
  have r1 : I1 19 = I 19 := f1 19 (by decide)
  have r2 : J1 223 = J 223 := f2 223 (by decide)
  have r3 : J1 224 = J 224 := f2 224 (by decide)
  have r4 : J1 229 = J 229 := f2 229 (by decide)
  rw [show m - f - i = m - f - (i + 1) + 1 by omega] at ht
  have ht2 : (match tyStep (J 223 (f + i)) (J 224 (f + i)) st with
    | some s => tyRun (J 223) (J 224) (f + i + 1) (m - f - (i + 1)) s
    | none => none) = some [z] := ht
  cases hst : tyStep (J 223 (f + i)) (J 224 (f + i)) st with
  | none => rw [hst] at ht2; cases ht2
  | some s =>
    rw [hst] at ht2
    have ht3 : tyRun (J 223) (J 224) (f + i + 1) (m - f - (i + 1)) s = some [z] := ht2
    unfold B_Law_worth_6 B_R_runs_12
    generalize ho : J 223 (f + i) = o at *
    generalize ha : J 224 (f + i) = b at *
    rcases hq with ⟨rfl, v, hv, rfl⟩ | ⟨rfl, v, hv, rfl⟩ | ⟨v, hv, hv2, rfl⟩
    · obtain ⟨p1, p2⟩ := psh_st (Or.inl rfl) hst
      have c0 : codOf 0 (nn v) = nn v := rfl
      rw [c0] at hco
      have n1 : ¬ nn v < 0 := nn_neg (by omega)
      have n2 : nn st.length < 40 := (nn_lt (k := 40) (by omega) (by omega)).mpr p1
      have j1 : inR (nn st.length) 40 = true := inR_nn (by omega) (by omega)
      have j2 : inR (nn st.length) 420 = true := inR_nn (by omega) (by omega)
      have t2 : (nn st.length).toNatClampNeg = st.length := nn_nat (by omega)
      unfold K_Law_worth_49 K_R_runs_45
      simp only [ok_bn, ok_ite, ok_ld, ok_sr, ok_rt, if_neg g1, if_pos g2, if_pos g3, g4, i1, i2, t1, r1, r2, r3, hco, ho, ha, if_neg n1, if_pos n2, j1, j2, t2, if_true, true_and, nn_s, sd_l]
      refine wp_fin (t := if nn v = 0 then 0 else 2) p1 hs (fun q => ?_) (fun q => ?_) ?_ f1 f2
      · split at q <;> cases q
      · intro e; rw [if_pos e] at q; cases q
      · rw [p2, if_pos rfl] at ht3; exact ht3
    · obtain ⟨p1, p2⟩ := psh_st (Or.inr rfl) hst
      have c0 : codOf 1 (nn v) = -27 - nn v := rfl
      rw [c0] at hco
      obtain ⟨w1, w2, w3⟩ := w_cod v hv
      have n2 : nn st.length < 40 := (nn_lt (k := 40) (by omega) (by omega)).mpr p1
      have j1 : inR (nn st.length) 40 = true := inR_nn (by omega) (by omega)
      have j2 : inR (nn st.length) 420 = true := inR_nn (by omega) (by omega)
      have j3 : inR (nn v) 9 = true := inR_nn (by omega) (by omega)
      have t2 : (nn st.length).toNatClampNeg = st.length := nn_nat (by omega)
      have t3 : (nn v).toNatClampNeg = v := nn_nat (by omega)
      have o1 : ¬ (1 : Int32) = 0 := by decide
      unfold K_Law_worth_49 K_R_runs_45
      simp only [ok_bn, ok_ite, ok_ld, ok_sr, ok_rt, if_neg g1, if_pos g2, if_pos g3, g4, i1, i2, t1, r1, r2, r3, r4, hco, ho, ha, if_pos w2, if_neg w3, if_pos n2, w1, ok_eq (hA I1 f1 v hv), hR v hv, j1, j2, j3, t2, t3, if_neg o1, if_true, true_and, nn_s, sd_l]
      refine wp_fin (t := 0) p1 hs (fun q => ?_) (fun q => ?_) ?_ f1 f2
      · cases q
      · cases q
      · rw [p2, if_neg (by decide)] at ht3; exact ht3
    · have n0 : ¬ nn v = 0 := nn_ne (k := 0) (by omega) (by omega) (by omega)
      have n1 : ¬ nn v = 1 := nn_ne (k := 1) (by omega) (by omega) (by omega)
      rw [c_cod b hv hv2] at hco
      obtain ⟨⟨c1, c2⟩, c3⟩ := b_cod v hv2 hv
      by_cases h9 : v = 9
      · subst h9
        have e9 : codOf (nn 9) 0 = -8 := c3.mpr rfl
        obtain ⟨r, rfl, rfl⟩ := not_st hst
        have hL : (1 :: r).length = r.length + 1 := List.length_cons
        rw [hL] at hl
        have hb := hs.1.1.1 rfl
        have he := hs.2 r.length (by rw [hL]; omega)
        have m1 : ¬ nn (r.length + 1) < 1 := fun q => by have := (nn_lt (k := 1) (by omega) (by omega)).mp q; omega
        have m2 : nn (r.length + 1) - 1 = nn r.length := nn_sub (j := r.length + 1) (k := 1) (by omega)
        have j1 : inR (nn r.length) 40 = true := inR_nn (by omega) (by omega)
        have j2 : inR (nn r.length) 420 = true := inR_nn (by omega) (by omega)
        have t2 : (nn r.length).toNatClampNeg = r.length := nn_nat (by omega)
        have d1 : (-8 : Int32) < 0 := by decide
        have d2 : (-20 : Int32) < -8 := by decide
        rw [e9] at hco
        simp only [ok_bn, ok_ite, ok_ld, ok_sr, ok_rt, hL, if_neg g1, if_pos g2, if_pos g3, g4, i1, i2, t1, r1, r2, r3, hco, ho, ha, if_pos d1, if_pos d2, if_neg n0, if_neg n1, if_neg m1, m2, j1, j2, t2, he, if_true, true_and, nn_s, sd_l]
        refine wp_fin (t := 1) (by omega) (SK_tl hs) (fun _ => ?_) (fun q => ?_) ht3 f1 f2
        · rcases hb with q | q <;> rw [q] <;> decide
        · cases q
      · have n9 : ¬ nn v = 9 := nn_ne (k := 9) (by omega) (by omega) h9
        have e9 : ¬ codOf (nn v) 0 = -8 := fun q => h9 (c3.mp q)
        obtain ⟨x, y, r, rfl⟩ := two_st hv hv2 h9 hst
        have hL : (x :: y :: r).length = r.length + 2 := rfl
        rw [hL] at hl
        obtain ⟨⟨⟨b1, b2⟩, ⟨b3, b4⟩, -⟩, hs2⟩ := id hs
        have hL2 : (y :: r).length = r.length + 1 := rfl
        rw [hL2] at b1 b2
        have he1 := hs2 r.length (by rw [hL]; omega)
        have he2 := hs2 (r.length + 1) (by rw [hL]; omega)
        obtain ⟨t, V, rfl, jA, jR, v1, v2⟩ := op2 hv hv2 h9 hst b1 b2 b3
        rw [c_cod b hv hv2] at jA
        have m1 : ¬ nn (r.length + 2) < 2 := fun q => by have := (nn_lt (k := 2) (by omega) (by omega)).mp q; omega
        have m2 : nn (r.length + 2) - 1 = nn (r.length + 1) := nn_sub (j := r.length + 2) (k := 1) (by omega)
        have m3 : nn (r.length + 1) - 1 = nn r.length := nn_sub (j := r.length + 1) (k := 1) (by omega)
        have m4 : nn (r.length + 2) + (-1) = nn (r.length + 1) := pm1 (k := r.length + 2) (by omega)
        have j1 : inR (nn r.length) 40 = true := inR_nn (by omega) (by omega)
        have j2 : inR (nn r.length) 420 = true := inR_nn (by omega) (by omega)
        have j3 : inR (nn (r.length + 1)) 40 = true := inR_nn (by omega) (by omega)
        have j4 : inR (nn (r.length + 1)) 420 = true := inR_nn (by omega) (by omega)
        have t2 : (nn r.length).toNatClampNeg = r.length := nn_nat (by omega)
        have t3 : (nn (r.length + 1)).toNatClampNeg = r.length + 1 := nn_nat (by omega)
        simp only [ok_bn, ok_ite, ok_ld, ok_sr, ok_rt, hL, if_neg g1, if_pos g2, if_pos g3, g4, i1, i2, t1, r1, r2, r3, hco, ho, ha, if_pos c1, if_pos c2, if_neg e9, if_neg n0, if_neg n1, if_neg n9, if_neg m1, m2, m3, m4, j1, j2, j3, j4, t2, t3, he1, he2, jA, jR, if_true, true_and, nn_s, sd_l]
        exact wp_fin (t := t) (by omega) (SK_tl (SK_tl hs)) v1 v2 ht3 f1 f2
theorem worth_AR {I J : MI} {w a f m z : Nat} {wv : Nat → Int32} (hf : f ≤ m) (hm : m ≤ 400)
    (hc : ∀ k, f ≤ k → k < m → isInt9 (J 223 k) (J 224 k) ∧ I 19 k = codOf (J 223 k) (J 224 k))
    (ht : tyRun (J 223) (J 224) f (m - f) [] = some [z])
    (hA : ∀ K : MI, (∀ c, c ≠ 20 → K c = I c) → ∀ j, j < 9 → F_Law_wordWorth w (nn a) (nn (7 + j)) K = some (wv j, K))
    (hR : ∀ j, j < 9 → J 229 j = wv j) : Ok (F_Law_worth 16 w (nn a) (nn f) (nn m)) I fun v I1 => Ok (F_R_runs 0 (nn f) (nn m)) J fun u J1 => u = v ∧ (z = 1 → v = 0 ∨ v = 1) ∧ (∀ c, c ≠ 20 → I1 c = I c) ∧ ∀ c, c ≠ 230 → J1 c = J c := by
  have g4 : ∀ k, (400 : Int32) * 0 + nn k = nn k := fun k => by
    have e : (400 : Int32) * 0 = nn 0 := by decide
    rw [e, nn_add, Nat.zero_add]
  have key := lpN (b1 := B_Law_worth_6 16 w (nn a) (nn m)) (b2 := B_R_runs_12 0 (nn m)) (Q := fun e I1 u J1 => e = .inl (nn 1) ∧ I1 20 0 = u ∧ (z = 1 → u = 0 ∨ u = 1) ∧ (∀ c, c ≠ 20 → I1 c = I c) ∧ ∀ c, c ≠ 230 → J1 c = J c) (m - f) (WP I J z f m) (fun i x I1 y J1 hi hP => worth_s hm hc hA hR i x I1 y J1 hi hP) (fun x I1 y J1 hP => by
    obtain ⟨st, ht, hl, rfl, rfl, hs, f1, f2⟩ := hP
    rw [show m - f - (m - f) = 0 by omega] at ht
    have e : st = [z] := by
      have h2 : some st = some [z] := ht
      injection h2
    subst e
    have g1 : ¬ nn m < 0 := nn_neg (by omega)
    have g2 : ¬ nn m < nn m := fun q => by have := (nn_lt (by omega) (by omega)).mp q; omega
    have i0 : inR (0 : Int32) 420 = true := by decide
    have t0 : (0 : Int32).toNatClampNeg = 0 := by decide
    rw [show f + (m - f) = m by omega]
    unfold B_Law_worth_6 B_R_runs_12
    simp only [ok_bn, ok_ite, ok_ld, ok_rt, if_neg g1, if_neg g2, g4, i0, t0, true_and, sd_r]
    exact ⟨rfl, hs.2 0 (Nat.lt_succ_self 0), hs.1.1.1, f1, f2⟩) (by omega) (x := (0, nn f)) (I := I) (y := (0, nn f)) (J := J) ⟨[], ht, by decide, rfl, rfl, ⟨trivial, fun i hi => absurd hi (by simp)⟩, fun _ _ => rfl, fun _ _ => rfl⟩
  unfold F_Law_worth K_Law_worth_6 F_R_runs K_R_runs_12
  rw [g4, ok_bn]
  refine ok_mono key fun e I1 h => ?_
  obtain ⟨u, J1, h2, rfl, q2, q3, f1, f2⟩ := h
  have d1 : (0 : Int32) < nn 1 := by decide
  have d2 : nn 1 - 1 = (0 : Int32) := by decide
  have i0 : inR (0 : Int32) 40 = true := by decide
  have t0 : (0 : Int32).toNatClampNeg = 0 := by decide
  unfold K_Law_worth_176
  simp only [ok_bn, ok_ite, ok_ld, ok_rt, if_pos d1, d2, i0, t0, true_and]
  rw [ok_eq h2, q2]
  exact ⟨rfl, q3, f1, f2⟩
end SC33
