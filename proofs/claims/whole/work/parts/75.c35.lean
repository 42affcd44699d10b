/-! how likely, how much; of -/
section SC35
theorem who_AR {w np na a : Nat} {z e : Int32} {I0 J0 I J : MI} (h : TT w np na z e I0 J0 I J) (ha : a < na) : ∃ p s, p < np ∧ p < 6 ∧ s < 10 ∧ I (w + 4) a = nn p ∧ I (w + 7) a = nn s ∧ J 212 a = nn p ∧ J 208 (23 + a) = nn s := by
  obtain ⟨-, -, hR, hS, ⟨-, hnp, -, hna, -, -, wp, -, ws, -⟩, -⟩ := id h
  obtain ⟨p, hp, e1⟩ := wp a ha
  obtain ⟨s, hs, e2⟩ := ws a ha
  have ha2 : a < 18 := by omega
  exact ⟨p, s, hp, by omega, hs, e1, e2, (hS.2.2.2.1 a ha2).trans e1, (hR.2.2.2.2.2.2.2.2.2.1 a ha2).trans e2⟩
theorem seen_AR {w np na a : Nat} {z e : Int32} {I0 J0 I J : MI} (hw : w = 2 ∨ w = 111) (h : TT w np na z e I0 J0 I J) (hl : bLaw I 16 J) (h4 : I 17 0 = nn 4) (ha : a < na) : Ok (F_Law_tells 16 w (nn a) 0) I fun v I1 => Ok (F_R_seenOf (nn a)) J fun u J1 => u = v ∧ (∃ q, q ≤ 1000 ∧ v = nn q) ∧ (∀ c, c ≠ 20 → I1 c = I c) ∧ ∀ c, c ≠ 229 → c ≠ 230 → J1 c = J c := by
  obtain ⟨-, -, -, -, ⟨-, -, w8, hna, -⟩, -⟩ := id h
  obtain ⟨p, s, -, hp6, hs, e1, e2, -, -⟩ := who_AR h ha
  obtain ⟨g, hg, hg2⟩ := asks_R hw h ha e1 hp6 e2 hs
  have ha2 : a < 18 := by omega
  have i1 : inR (nn a) 18 = true := inR_nn ha2 (by omega)
  have t1 : (nn a).toNatClampNeg = a := nn_nat (by omega)
  have i2 : inR (nn p) 6 = true := inR_nn hp6 (by omega)
  have t2 : (nn p).toNatClampNeg = p := nn_nat (by omega)
  have i3 : inR (nn s) 10 = true := inR_nn hs (by omega)
  have t3 : (nn s).toNatClampNeg = s := nn_nat (by omega)
  have hU : F_Law_untold w (nn a) (nn 0) I = some (100 * I (w + 1) s - 50 * I (w + 2) p, I) := by
    have hO : Ok (F_Law_untold w (nn a) (nn 0)) I fun v K => v = 100 * I (w + 1) s - 50 * I (w + 2) p ∧ K = I := by
      unfold F_Law_untold
      simp (decide := true) only [ok_bn, ok_ld, ok_rt, ok_ite, i1, t1, i2, t2, i3, t3, e1, e2, if_true, true_and, and_true]
    obtain ⟨v, K, q, rfl, rfl⟩ := hO
    exact q
  have h1 : g 1 = I (w + 2) p := hg2 1 (by decide)
  have h2 : g 2 = I (w + 1) s := hg2 2 (by decide)
  have key := tells_AR (I := I) (J := bup J 229 g) (w := w) (a := a) (k := 0) (by decide) (k_Law (I := I) (I1 := I) (J := J) (fun _ _ _ => rfl) (bup_ne _ _ (by decide)) (bup_ne _ _ (by decide)) (bup_ne _ _ (by decide)) (bup_ne _ _ (by decide)) (bup_ne _ _ (by decide)) (bup_ne _ _ (by decide)) (bup_ne _ _ (by decide)) hl) h4 hU (fun K hK j hj => word_A hw hK w8 hna ha2 e1 hp6 e2 hs hj) (fun j hj => by rw [bup_eq]; exact hg2 j hj)
  refine ok_mono key fun v I1 q => ?_
  obtain ⟨u, J1, q1, rfl, q2, q3, q4⟩ := q
  have n1 : (1 : Int32).toNatClampNeg = 1 := by decide
  have n2 : (2 : Int32).toNatClampNeg = 2 := by decide
  have q1' : F_R_lawTells 0 (100 * I (w + 1) s - 50 * I (w + 2) p) 1000 (bup J 229 g) = some (u, J1) := q1
  unfold F_R_seenOf
  simp (decide := true) only [ok_bn, ok_eq hg, ok_ld, bup_eq, n1, n2, h1, h2, true_and]
  rw [ok_eq q1', ok_rt]
  exact ⟨rfl, q2, q3, fun c n1 n2 => (q4 c n2).trans (bup_ne _ _ n1)⟩
theorem cost_AR {w np na a : Nat} {z e : Int32} {I0 J0 I J : MI} (hw : w = 2 ∨ w = 111) (h : TT w np na z e I0 J0 I J) (hl : bLaw I 16 J) (h4 : I 17 0 = nn 4) (ha : a < na) : Ok (F_Law_tells 16 w (nn a) 1) I fun v I1 => Ok (F_R_costsOf (nn a)) J fun u J1 => u = v ∧ (∃ q, q ≤ 99 ∧ v = nn q) ∧ (∀ c, c ≠ 20 → I1 c = I c) ∧ ∀ c, c ≠ 229 → c ≠ 230 → J1 c = J c := by
  obtain ⟨-, -, -, -, ⟨-, -, w8, hna, -⟩, -⟩ := id h
  obtain ⟨p, s, -, hp6, hs, e1, e2, -, -⟩ := who_AR h ha
  obtain ⟨g, hg, hg2⟩ := asks_R hw h ha e1 hp6 e2 hs
  have ha2 : a < 18 := by omega
  have i1 : inR (nn a) 18 = true := inR_nn ha2 (by omega)
  have t1 : (nn a).toNatClampNeg = a := nn_nat (by omega)
  have hU : F_Law_untold w (nn a) (nn 1) I = some (1 + I (w + 5) a, I) := by
    have hO : Ok (F_Law_untold w (nn a) (nn 1)) I fun v K => v = 1 + I (w + 5) a ∧ K = I := by
      unfold F_Law_untold
      simp (decide := true) only [ok_bn, ok_ld, ok_rt, ok_ite, i1, t1, if_true, if_false, true_and, and_true]
    obtain ⟨v, K, q, rfl, rfl⟩ := hO
    exact q
  have h1 : g 0 = I (w + 5) a := hg2 0 (by decide)
  have key := tells_AR (I := I) (J := bup J 229 g) (w := w) (a := a) (k := 1) (by decide) (k_Law (I := I) (I1 := I) (J := J) (fun _ _ _ => rfl) (bup_ne _ _ (by decide)) (bup_ne _ _ (by decide)) (bup_ne _ _ (by decide)) (bup_ne _ _ (by decide)) (bup_ne _ _ (by decide)) (bup_ne _ _ (by decide)) (bup_ne _ _ (by decide)) hl) h4 hU (fun K hK j hj => word_A hw hK w8 hna ha2 e1 hp6 e2 hs hj) (fun j hj => by rw [bup_eq]; exact hg2 j hj)
  refine ok_mono key fun v I1 q => ?_
  obtain ⟨u, J1, q1, rfl, q2, q3, q4⟩ := q
  have n0 : (0 : Int32).toNatClampNeg = 0 := by decide
  have q1' : F_R_lawTells 1 (1 + I (w + 5) a) 99 (bup J 229 g) = some (u, J1) := q1
  unfold F_R_costsOf
  simp (decide := true) only [ok_bn, ok_eq hg, ok_ld, bup_eq, n0, h1, true_and]
  rw [ok_eq q1', ok_rt]
  exact ⟨rfl, q2, q3, fun c n1 n2 => (q4 c n2).trans (bup_ne _ _ n1)⟩
theorem gain_AR {w np na a : Nat} {z e : Int32} {I0 J0 I J : MI} (hw : w = 2 ∨ w = 111) (h : TT w np na z e I0 J0 I J) (hl : bLaw I 16 J) (h4 : I 17 0 = nn 4) (ha : a < na) : Ok (F_Law_tells 16 w (nn a) 2) I fun v I1 => Ok (F_R_gainsOf (nn a)) J fun u J1 => u = v ∧ (∃ q, q ≤ 99 ∧ v = nn q) ∧ (∀ c, c ≠ 20 → I1 c = I c) ∧ ∀ c, c ≠ 229 → c ≠ 230 → J1 c = J c := by
  obtain ⟨-, -, -, -, ⟨-, -, w8, hna, -⟩, -⟩ := id h
  obtain ⟨p, s, -, hp6, hs, e1, e2, -, -⟩ := who_AR h ha
  obtain ⟨g, hg, hg2⟩ := asks_R hw h ha e1 hp6 e2 hs
  have ha2 : a < 18 := by omega
  have i1 : inR (nn a) 18 = true := inR_nn ha2 (by omega)
  have t1 : (nn a).toNatClampNeg = a := nn_nat (by omega)
  have hU : F_Law_untold w (nn a) (nn 2) I = some (2 * I (w + 5) a, I) := by
    have hO : Ok (F_Law_untold w (nn a) (nn 2)) I fun v K => v = 2 * I (w + 5) a ∧ K = I := by
      unfold F_Law_untold
      simp (decide := true) only [ok_bn, ok_ld, ok_rt, ok_ite, i1, t1, if_true, if_false, true_and, and_true]
    obtain ⟨v, K, q, rfl, rfl⟩ := hO
    exact q
  have h1 : g 0 = I (w + 5) a := hg2 0 (by decide)
  have key := tells_AR (I := I) (J := bup J 229 g) (w := w) (a := a) (k := 2) (by decide) (k_Law (I := I) (I1 := I) (J := J) (fun _ _ _ => rfl) (bup_ne _ _ (by decide)) (bup_ne _ _ (by decide)) (bup_ne _ _ (by decide)) (bup_ne _ _ (by decide)) (bup_ne _ _ (by decide)) (bup_ne _ _ (by decide)) (bup_ne _ _ (by decide)) hl) h4 hU (fun K hK j hj => word_A hw hK w8 hna ha2 e1 hp6 e2 hs hj) (fun j hj => by rw [bup_eq]; exact hg2 j hj)
  refine ok_mono key fun v I1 q => ?_
  obtain ⟨u, J1, q1, rfl, q2, q3, q4⟩ := q
  have n0 : (0 : Int32).toNatClampNeg = 0 := by decide
  have q1' : F_R_lawTells 2 (2 * I (w + 5) a) 99 (bup J 229 g) = some (u, J1) := q1
  unfold F_R_gainsOf
  simp (decide := true) only [ok_bn, ok_eq hg, ok_ld, bup_eq, n0, h1, true_and]
  rw [ok_eq q1', ok_rt]
  exact ⟨rfl, q2, q3, fun c n1 n2 => (q4 c n2).trans (bup_ne _ _ n1)⟩
theorem tt_0 {I J : MI} {np na : Nat} (hr : Rl I J) (hb : bW I 2 np na) : TT 2 np na 0 (I 2 3) I J I J := ⟨fun _ _ _ _ => rfl, fun _ _ _ _ _ => rfl, hr.1.1.1, hr.1.1.2.1, hb, Or.inl ⟨rfl, hr.1.2.1⟩, rfl⟩
theorem rl_law {I J I1 J1 : MI} (hr : Rl I J) (f1 : ∀ c, c ≠ 20 → I1 c = I c) (f2 : ∀ c, c ≠ 229 → c ≠ 230 → J1 c = (bup J 207 (upd (J 207) 0 0)) c) : Rl I1 J1 := by
  refine rl_none [20] [229, 230] [0] hr (fun a ha => f1 a (fun e => by subst e; cases ha)) ⟨fun a ha => ?_, fun k hk => ?_⟩ (fun t ht => ?_) (by rw [f1 0 (by decide)]) (by rw [f1 0 (by decide)]) (by rw [f1 0 (by decide)]) rfl
  · have n1 : a ≠ 207 := fun e => by subst e; cases ha
    have n2 : a ≠ 229 := fun e => by subst e; cases ha
    have n3 : a ≠ 230 := fun e => by subst e; cases ha
    rw [f2 a n2 n3, bup_ne _ _ n1]
  · have n1 : k ≠ 0 := fun e => by subst e; cases hk
    rw [f2 207 (by decide) (by decide), bup_eq, upd_ne _ _ n1]
  · have n1 : t ≠ 20 := fun e => by subst e; cases ht
    rw [f1 t n1]; exact ⟨rfl, rfl⟩
theorem c_of (x y : Int32) : Call (F_A_of x y) (F_R_of x y) := by
  refine call_of fun I J hr => ?_
  obtain ⟨⟨k1, -, k3, -⟩, -, -, -, kc⟩ := id hr
  obtain ⟨r1, r2, np, na, r3⟩ := k1
  obtain ⟨w7, h6, w8, h18, w4, w6, wp, wh, wi, wo, ws, wu⟩ := id r3
  obtain ⟨b1, b2, b3, b4, b5, b6⟩ := id r2
  obtain ⟨-, -, -, -, -, -, -, -, -, r23, r41, r59, r77⟩ := id r1
  have j7 : J 207 7 = nn na := b2.trans w8
  have told := rl_told hr
  have TB := tt_0 told r3
  have hl : bLaw I 16 (bup J 207 (upd (J 207) 0 0)) := told.1.2.2.1
  have h4 : I 17 0 = nn 4 := (con_at kc (t := 17) (w := 4) (r := 16) (by decide)).1
  unfold F_A_of F_R_of
  simp only [isA_R, isA_A]
  rcases nlt (x := x) na (by omega) with ⟨a, ha, rfl⟩ | out
  · have ha2 : a < 18 := by omega
    have cA : isX 2 8 (nn a) I = some (1, I) := isX_in w8 ha (by omega)
    have cR : isX 207 7 (nn a) (bup J 207 (upd (J 207) 0 0)) = some (1, bup J 207 (upd (J 207) 0 0)) := isX_in (n := na) (by exact j7) ha (by omega)
    have i1 : inR (nn a) 18 = true := inR_nn ha2 (by omega)
    have t1 : (nn a).toNatClampNeg = a := nn_nat (by omega)
    have a23 : (23 : Int32) + nn a = nn (23 + a) := nn_add 23 a
    have i23 : inR (nn (23 + a)) 95 = true := inR_nn (by omega) (by omega)
    have t23 : (nn (23 + a)).toNatClampNeg = 23 + a := nn_nat (by omega)
    have a41 : (41 : Int32) + nn a = nn (41 + a) := nn_add 41 a
    have i41 : inR (nn (41 + a)) 95 = true := inR_nn (by omega) (by omega)
    have t41 : (nn (41 + a)).toNatClampNeg = 41 + a := nn_nat (by omega)
    have a59 : (59 : Int32) + nn a = nn (59 + a) := nn_add 59 a
    have i59 : inR (nn (59 + a)) 95 = true := inR_nn (by omega) (by omega)
    have t59 : (nn (59 + a)).toNatClampNeg = 59 + a := nn_nat (by omega)
    have a77 : (77 : Int32) + nn a = nn (77 + a) := nn_add 77 a
    have i77 : inR (nn (77 + a)) 95 = true := inR_nn (by omega) (by omega)
    have t77 : (nn (77 + a)).toNatClampNeg = 77 + a := nn_nat (by omega)
    have v0 : J 212 a = I 6 a := b4 a ha2
    have v1 : J 213 a = I 7 a := b5 a ha2
    have v2 : J 214 a = I 8 a := b6 a ha2
    have v3 : J 208 (23 + a) = I 9 a := r23 a ha2
    have v4 : J 208 (41 + a) = I 10 a := r41 a ha2
    have v5 : J 208 (59 + a) = I 11 a := r59 a ha2
    have v6 : J 208 (77 + a) = I 12 a := r77 a ha2
    simp (decide := true) only [ok_bn, ok_wr, ok_eq cA, ok_eq cR, if_false]
    by_cases y0 : y = 0
    · subst y0
      simp (decide := true) only [ok_bn, ok_ld, ok_rt, i1, t1, v0, bup_ne, if_true, true_and]
      exact told
    by_cases y1 : y = 1
    · subst y1
      simp (decide := true) only [ok_bn, ok_ld, ok_rt, i1, t1, v1, bup_ne, if_true, if_false, true_and]
      exact told
    by_cases y2 : y = 2
    · subst y2
      simp (decide := true) only [ok_bn, ok_ld, ok_rt, i1, t1, v2, bup_ne, if_true, if_false, true_and]
      exact told
    by_cases y3 : y = 3
    · subst y3
      simp (decide := true) only [ok_bn, ok_ld, ok_rt, i1, t1, a23, i23, t23, v3, bup_ne, if_true, if_false, true_and]
      exact told
    by_cases y4 : y = 4
    · subst y4
      simp (decide := true) only [ok_bn, ok_ld, ok_rt, i1, t1, a41, i41, t41, v4, bup_ne, if_true, if_false, true_and]
      exact told
    by_cases y5 : y = 5
    · subst y5
      simp (decide := true) only [ok_bn, ok_ld, ok_rt, i1, t1, a59, i59, t59, v5, bup_ne, if_true, if_false, true_and]
      exact told
    by_cases y6 : y = 6
    · subst y6
      simp (decide := true) only [ok_bn, ok_ld, ok_rt, i1, t1, a77, i77, t77, v6, bup_ne, if_true, if_false, true_and]
      exact told
    by_cases y7 : y = 7
    · subst y7
      simp (decide := true) only [ok_bn, if_true, if_false]
      refine ok_mono (seen_AR (Or.inl rfl) TB hl h4 ha) fun v I1 q => ?_
      obtain ⟨u, J1, q1, rfl, -, q3, q4⟩ := q
      simp only [ok_rt, ok_bn, ok_eq q1, true_and]
      exact rl_law hr q3 q4
    by_cases y8 : y = 8
    · subst y8
      simp (decide := true) only [ok_bn, if_true, if_false]
      refine ok_mono (cost_AR (Or.inl rfl) TB hl h4 ha) fun v I1 q => ?_
      obtain ⟨u, J1, q1, rfl, -, q3, q4⟩ := q
      simp only [ok_rt, ok_bn, ok_eq q1, true_and]
      exact rl_law hr q3 q4
    by_cases y9 : y = 9
    · subst y9
      simp (decide := true) only [ok_bn, if_true, if_false]
      refine ok_mono (gain_AR (Or.inl rfl) TB hl h4 ha) fun v I1 q => ?_
      obtain ⟨u, J1, q1, rfl, -, q3, q4⟩ := q
      simp only [ok_rt, ok_bn, ok_eq q1, true_and]
      exact rl_law hr q3 q4
    · simp only [if_neg y0, if_neg y1, if_neg y2, if_neg y3, if_neg y4, if_neg y5, if_neg y6, if_neg y7, if_neg y8, if_neg y9, ok_rt, true_and]
      exact told
  · have cA : isX 2 8 x I = some (0, I) := isX_out w8 out
    have cR : isX 207 7 x (bup J 207 (upd (J 207) 0 0)) = some (0, bup J 207 (upd (J 207) 0 0)) := isX_out (n := na) (by exact j7) out
    simp (decide := true) only [ok_bn, ok_wr, ok_rt, ok_eq cA, ok_eq cR, if_true, true_and]
    exact told
end SC35
