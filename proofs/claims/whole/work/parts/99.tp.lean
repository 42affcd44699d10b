/-! text: shares, diary and streets are taken over -/
section TY99
theorem takO_A {I : MI} {x : Int32} {t0 t1 n w : Nat} (hx : ¬ x = 0) (e0 : F_Texts_table 15 x = rt t0) (e1 : F_Texts_table 94 x = rt t1) (h3 : I t1 3 = nn n) (h0 : I t0 0 = nn w) (hs : siz shT (t1 + 1) = siz shT (t0 + 1)) (hb : n * w ≤ siz shT (t0 + 1)) (hb2 : n * w < 2 ^ 31) (hne : t1 + 1 ≠ t0) (hne2 : t0 ≠ t1) : ∃ K, F_Texts_take 15 x 94 I = some (nn n, K) ∧ (∀ a, a ≠ t0 → a ≠ t0 + 1 → K a = I a) ∧ K t0 = upd (I t0) 3 (nn n) ∧ ∀ k, k < n * w → K (t0 + 1) k = I (t1 + 1) k := by
  have e := tb_eq h3 h0 hs hb hb2 hne hne2
  refine ⟨bup (bup I t0 (upd (I t0) 3 (nn n))) (t0 + 1) fun k => if k < n * w then I (t1 + 1) k else I (t0 + 1) k, ?_, fun a h1 h2 => ?_, ?_, fun k hk => ?_⟩
  · unfold F_Texts_take
    rw [if_neg hx, e0, e1, bn_rt, bn_rt, bn_of e, bn_rt, bn_rd, bup_ne (b := t0) _ _ (by omega), bup_eq, upd_eq]
    rfl
  · rw [bup_ne _ _ h2, bup_ne _ _ h1]
  · rw [bup_ne (b := t0) _ _ (by omega), bup_eq]
  · rw [bup_eq, if_pos hk]
theorem takS_R {J : MI} {n : Nat} (hn : n ≤ 16) : Ok (F_R_takesOther 1 (nn n)) J fun _ K => (∀ a, a ≠ 207 → a ≠ 226 → K a = J a) ∧ (∀ k, k ≠ 36 → k ≠ 3 → K 207 k = J 207 k) ∧ K 207 36 = nn n ∧ K 207 3 = 0 ∧ K 226 = cqy (J 226) 64 (4 * n) := by
  unfold F_R_takesOther
  rw [if_neg (by decide), if_pos rfl]
  unfold K_R_takesOther_47
  refine ok_lp (fun k (y : Int32) (L : MI) => y = nn k ∧ (∀ a, a ≠ 226 → L a = J a) ∧ L 226 = cqy (J 226) 64 k) (4 * n) (fun k y L hk h => ?_) (fun y L h => ?_) FU 0 J (by rw [FU_eq]; omega) ⟨rfl, fun _ _ => rfl, by rw [cqy_0]⟩
  · obtain ⟨rfl, hl, l6⟩ := h
    have e4 : (4 : Int32) * nn n = nn (4 * n) := nn_mul 4 n
    have g : nn k < nn (4 * n) := (nn_lt (by omega) (by omega)).mpr hk
    have xs : (64 : Int32) + nn k = nn (64 + k) := nn_add 64 k
    have i1 : inR (nn k) 128 = true := inR_nn (by omega) (by omega)
    have t1 : (nn k).toNatClampNeg = k := nn_nat (by omega)
    have i2 : inR (nn (64 + k)) 128 = true := inR_nn (by omega) (by omega)
    have t2 : (nn (64 + k)).toNatClampNeg = 64 + k := nn_nat (by omega)
    unfold B_R_takesOther_47
    simp (decide := true) only [e4, ok_ite, if_pos g, ok_bn, ok_ld, ok_sr, xs, i1, t1, i2, t2, bup_eq, bup_ne, ok_rt, nn_s, true_and, l6]
    refine ⟨fun a h1 => by rw [bup_ne _ _ h1]; exact hl a h1, ?_⟩
    rw [cqy_r (by omega), cqy_s]
  · obtain ⟨rfl, hl, l6⟩ := h
    have e4 : (4 : Int32) * nn n = nn (4 * n) := nn_mul 4 n
    have g : ¬ nn (4 * n) < nn (4 * n) := fun q => by have := (nn_lt (j := 4 * n) (k := 4 * n) (by omega) (by omega)).mp q; omega
    unfold B_R_takesOther_47
    rw [e4, ok_ite, if_neg g]
    refine ok_w7 fun K1 a1 b1 c1 => ?_
    refine ok_w7 fun K2 a2 b2 c2 => ?_
    rw [ok_rt]
    refine ⟨fun a h1 h2 => by rw [a2 a h1, a1 a h1, hl a h2], fun k h1 h2 => by rw [c2 k h2, c1 k h1, hl 207 (by decide)], by rw [c2 36 (by decide), b1], b2, by rw [a2 226 (by decide), a1 226 (by decide), l6]⟩
theorem takD_R {J : MI} {n : Nat} (hn : n ≤ 16) : Ok (F_R_takesOther 2 (nn n)) J fun _ K => (∀ a, a ≠ 207 → a ≠ 227 → K a = J a) ∧ (∀ k, k ≠ 38 → k ≠ 3 → K 207 k = J 207 k) ∧ K 207 38 = nn n ∧ K 207 3 = 0 ∧ K 227 = cqy (J 227) 80 (5 * n) := by
  unfold F_R_takesOther
  rw [if_neg (by decide), if_neg (by decide)]
  unfold K_R_takesOther_85
  refine ok_lp (fun k (y : Int32) (L : MI) => y = nn k ∧ (∀ a, a ≠ 227 → L a = J a) ∧ L 227 = cqy (J 227) 80 k) (5 * n) (fun k y L hk h => ?_) (fun y L h => ?_) FU 0 J (by rw [FU_eq]; omega) ⟨rfl, fun _ _ => rfl, by rw [cqy_0]⟩
  · obtain ⟨rfl, hl, l6⟩ := h
    have e4 : (5 : Int32) * nn n = nn (5 * n) := nn_mul 5 n
    have g : nn k < nn (5 * n) := (nn_lt (by omega) (by omega)).mpr hk
    have xs : (80 : Int32) + nn k = nn (80 + k) := nn_add 80 k
    have i1 : inR (nn k) 160 = true := inR_nn (by omega) (by omega)
    have t1 : (nn k).toNatClampNeg = k := nn_nat (by omega)
    have i2 : inR (nn (80 + k)) 160 = true := inR_nn (by omega) (by omega)
    have t2 : (nn (80 + k)).toNatClampNeg = 80 + k := nn_nat (by omega)
    unfold B_R_takesOther_85
    simp (decide := true) only [e4, ok_ite, if_pos g, ok_bn, ok_ld, ok_sr, xs, i1, t1, i2, t2, bup_eq, bup_ne, ok_rt, nn_s, true_and, l6]
    refine ⟨fun a h1 => by rw [bup_ne _ _ h1]; exact hl a h1, ?_⟩
    rw [cqy_r (by omega), cqy_s]
  · obtain ⟨rfl, hl, l6⟩ := h
    have e4 : (5 : Int32) * nn n = nn (5 * n) := nn_mul 5 n
    have g : ¬ nn (5 * n) < nn (5 * n) := fun q => by have := (nn_lt (j := 5 * n) (k := 5 * n) (by omega) (by omega)).mp q; omega
    unfold B_R_takesOther_85
    rw [e4, ok_ite, if_neg g]
    refine ok_w7 fun K1 a1 b1 c1 => ?_
    refine ok_w7 fun K2 a2 b2 c2 => ?_
    rw [ok_rt]
    refine ⟨fun a h1 h2 => by rw [a2 a h1, a1 a h1, hl a h2], fun k h1 h2 => by rw [c2 k h2, c1 k h1, hl 207 (by decide)], by rw [c2 38 (by decide), b1], b2, by rw [a2 227 (by decide), a1 227 (by decide), l6]⟩
theorem takW_R {J : MI} {n : Nat} : Ok (F_R_takesOther 3 (nn n)) J fun _ K => (∀ a, a ≠ 207 → a ≠ 228 → K a = J a) ∧ (∀ k, k ≠ 40 → K 207 k = J 207 k) ∧ K 207 40 = nn n ∧ K 228 = cqy (J 228) 10 10 := by
  unfold F_R_takesOther
  rw [if_pos rfl]
  unfold K_R_takesOther_7
  refine ok_lp (fun k (y : Int32) (L : MI) => y = nn k ∧ (∀ a, a ≠ 228 → L a = J a) ∧ L 228 = cqy (J 228) 10 k) 10 (fun k y L hk h => ?_) (fun y L h => ?_) FU 0 J (by rw [FU_eq]; omega) ⟨rfl, fun _ _ => rfl, by rw [cqy_0]⟩
  · obtain ⟨rfl, hl, l6⟩ := h
    have g : nn k < (10 : Int32) := (nn_lt (k := 10) (by omega) (by omega)).mpr hk
    have xs : (10 : Int32) + nn k = nn (10 + k) := nn_add 10 k
    have i1 : inR (nn k) 20 = true := inR_nn (by omega) (by omega)
    have t1 : (nn k).toNatClampNeg = k := nn_nat (by omega)
    have i2 : inR (nn (10 + k)) 20 = true := inR_nn (by omega) (by omega)
    have t2 : (nn (10 + k)).toNatClampNeg = 10 + k := nn_nat (by omega)
    unfold B_R_takesOther_7
    simp (decide := true) only [ok_ite, if_pos g, ok_bn, ok_ld, ok_sr, xs, i1, t1, i2, t2, bup_eq, bup_ne, ok_rt, nn_s, true_and, l6]
    refine ⟨fun a h1 => by rw [bup_ne _ _ h1]; exact hl a h1, ?_⟩
    rw [cqy_r (by omega), cqy_s]
  · obtain ⟨rfl, hl, l6⟩ := h
    unfold B_R_takesOther_7
    rw [ok_ite, if_neg (by decide)]
    refine ok_w7 fun K1 a1 b1 c1 => ?_
    rw [ok_rt]
    exact ⟨fun a h1 h2 => by rw [a1 a h1, hl a h2], fun k h1 => by rw [c1 k h1, hl 207 (by decide)], b1, by rw [a1 228 (by decide), l6]⟩
/-! the four relations anew -/
theorem law_new {X : CX} {es : CL} {n c : Nat} {I J K L : MI} (hL : LK X (DLw es n) c I J) (h17 : K 17 3 = nn n) (h16 : K 16 1 = nn es.length) (h18 : ∀ k, k < 4 * n → K 18 k = I 97 k) (h19 : ∀ k, k < 400 → K 19 k = I 98 k) (j18 : L 218 0 = nn n) (j19 : L 219 = cqy (J 219) 32 n) (j20 : L 220 = cqy (J 220) 32 n) (j21 : L 221 = cqy (J 221) 32 n) (j22 : L 222 = cqy (J 222) 32 n) (j23 : L 223 = cqy (J 223) 800 es.length) (j24 : L 224 = cqy (J 224) 800 es.length) : bLaw K 16 L := by
  obtain ⟨⟨c1, c2, c3, c4⟩, d1, d2, d3, d4⟩ := hL.2.2.2
  have o3 : ∀ k, k < es.length → L 223 k = opE es k := fun k hk => by rw [j23, cqy_lt hk, (c4 k hk).2.1]; rfl
  have o4 : ∀ k, k < es.length → L 224 k = arE es k := fun k hk => by rw [j24, cqy_lt hk, (c4 k hk).2.2.1]; rfl
  refine ⟨n, d1, h17, j18, ⟨es.length, c1, h16⟩, fun i hi => ?_⟩
  obtain ⟨v, f, m, t, hv, hfm, hmt, ht, a1, a2, a3, a4, a5, a6, a7, a8, ⟨z, hz, r1⟩, r2⟩ := d4 i hi
  refine ⟨⟨v, hv, by show K 18 (4 * i) = _; rw [h18 _ (by omega), a1], by rw [j19, cqy_lt hi, a2]⟩, f, m, t, hfm, hmt, by omega, by show K 18 _ = _; rw [h18 _ (by omega), a3], by rw [j20, cqy_lt hi, a4], by show K 18 _ = _; rw [h18 _ (by omega), a5], by rw [j21, cqy_lt hi, a6], by show K 18 _ = _; rw [h18 _ (by omega), a7], by rw [j22, cqy_lt hi, a8], fun k k1 k2 => ?_, ⟨z, hz, ?_⟩, fun hlt => ?_⟩
  · have hk : k < es.length := by omega
    rw [o3 k hk, o4 k hk]
    refine ⟨(c4 k hk).1, ?_⟩
    show K 19 k = _
    rw [h19 k (by omega), (c4 k hk).2.2.2]
    rfl
  · rw [← r1]
    exact tyRun_co _ _ _ fun j q1 q2 => ⟨o3 j (by omega), o4 j (by omega)⟩
  · rw [← r2 hlt]
    exact tyRun_co _ _ _ fun j q1 q2 => ⟨o3 j (by omega), o4 j (by omega)⟩
theorem sha_new {X : CX} {n c : Nat} {I J K L : MI} (hL : sSh X n c I J) (h21 : K 21 3 = nn n) (h22 : ∀ k, k < n * 4 → K 22 k = I 101 k) (j36 : L 207 36 = nn n) (j26 : L 226 = cqy (J 226) 64 (4 * n)) : bSha K 21 L := by
  obtain ⟨d1, d2, d3, d4⟩ := hL.2.2.2
  refine ⟨n, d1, h21, j36, fun i hi => ?_⟩
  obtain ⟨q, s, hs, es⟩ := d3 i hi
  have e : ∀ k, k < 4 → L 226 (4 * i + k) = K 22 (4 * i + k) := fun k hk => by rw [j26, cqy_lt (by omega), q k hk, h22 _ (by omega)]
  refine ⟨e 0 (by decide), e 1 (by decide), e 2 (by decide), s, hs, ?_, ?_⟩
  · show K 22 _ = _
    rw [h22 _ (by omega), es]
  · rw [e 3 (by decide), h22 _ (by omega), es]
theorem dia_new {X : CX} {n c np na : Nat} {I J K L : MI} (hL : sDi np na X n c I J) (h23 : K 23 3 = nn n) (h24 : ∀ k, k < n * 5 → K 24 k = I 103 k) (p1 : K 2 7 = nn np) (p2 : np ≤ 6) (q1 : K 2 8 = nn na) (q2 : na ≤ 18) (j38 : L 207 38 = nn n) (j27 : L 227 = cqy (J 227) 80 (5 * n)) : bDia K 23 2 L := by
  obtain ⟨d1, d2, d3, d4⟩ := hL.2.2.2
  refine ⟨n, d1, h23, j38, np, na, p1, p2, q1, q2, fun i hi => ?_⟩
  obtain ⟨z0, z1, z3, z4, z5⟩ := d3 i hi
  have e : ∀ k, k < 5 → L 227 (5 * i + k) = J 227 (80 + (5 * i + k)) := fun k hk => by rw [j27, cqy_lt (by omega)]
  have w : ∀ k, k < 5 → K (23 + 1) (5 * i + k) = I 103 (5 * i + k) := fun k hk => h24 _ (by omega)
  have e0 : L 227 (5 * i) = J 227 (80 + 5 * i) := e 0 (by decide)
  have w0 : K (23 + 1) (5 * i) = I 103 (5 * i) := w 0 (by decide)
  rw [e0, e 1 (by decide), e 2 (by decide), e 3 (by decide), e 4 (by decide), w0, w 1 (by decide), w 2 (by decide), w 3 (by decide), w 4 (by decide)]
  exact ⟨z0, z1, z3, z4, z5⟩
theorem way_new {X : CX} {n c : Nat} {I J K L : MI} (hL : sWa X n c I J) (h25 : K 25 3 = nn n) (h26 : ∀ k, k < n * 2 → K 26 k = I 105 k) (j40 : L 207 40 = nn n) (j28 : L 228 = cqy (J 228) 10 10) : bWay K 25 L := by
  obtain ⟨f, g, hL⟩ := hL
  obtain ⟨d1, d2, d3, d4⟩ := hL.2.2.2
  refine ⟨n, d1, h25, j40, f, g, fun i hi => ?_, fun s hs => ?_⟩
  · obtain ⟨z1, z2, z3, z4, z5⟩ := d3 i hi
    refine ⟨z1, z2, z3, ?_, ?_⟩
    · show K 26 _ = _
      rw [h26 _ (by omega), z4]
    · show K 26 _ = _
      rw [h26 _ (by omega), z5]
  · obtain ⟨m, m1, m2, m3⟩ := d4 s hs
    refine ⟨m, m1, by rw [j28, cqy_lt hs]; exact m2, fun b hb => ?_⟩
    rw [m3 b hb]
    constructor
    · rintro ⟨i, i1, _, i3⟩; exact ⟨i, i1, i3⟩
    · rintro ⟨i, i1, i3⟩; exact ⟨i, i1, trivial, i3⟩
end TY99
