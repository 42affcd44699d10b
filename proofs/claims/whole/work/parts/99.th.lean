/-! text: a line of the law -/
section TQ99
def opE (es : CL) (k : Nat) : Int32 := (es.getD k (0, 0)).1
def arE (es : CL) (k : Nat) : Int32 := (es.getD k (0, 0)).2
theorem gdA_lt {es nw : CL} {k : Nat} (h : k < es.length) : (es ++ nw).getD k (0, 0) = es.getD k (0, 0) := by
  simp only [List.getD_eq_getElem?_getD, List.getElem?_append_left h]
theorem gdA_ge {es nw : CL} {j : Nat} : (es ++ nw).getD (es.length + j) (0, 0) = nw.getD j (0, 0) := by
  simp only [List.getD_eq_getElem?_getD, List.getElem?_append_right (Nat.le_add_right _ _), Nat.add_sub_cancel_left]
theorem tyRun_co {op ar op' ar' : Nat → Int32} : ∀ (n k : Nat) (st : List Nat), (∀ j, k ≤ j → j < k + n → op j = op' j ∧ ar j = ar' j) → tyRun op ar k n st = tyRun op' ar' k n st := by
  intro n
  induction n with
  | zero => intro k st _; rfl
  | succ n ih =>
    intro k st h
    unfold tyRun
    rw [(h k (Nat.le_refl _) (by omega)).1, (h k (Nat.le_refl _) (by omega)).2]
    cases tyStep (op' k) (ar' k) st with
    | none => rfl
    | some s => exact ih (k + 1) s fun j h1 h2 => h j (by omega) (by omega)
theorem tyRun_L {op ar : Nat → Int32} : ∀ (nw : CL) (k : Nat) (st : List Nat), (∀ j, j < nw.length → op (k + j) = (nw.getD j (0, 0)).1 ∧ ar (k + j) = (nw.getD j (0, 0)).2) → tyRun op ar k nw.length st = tyL nw st := by
  intro nw
  induction nw with
  | nil => intro k st _; rfl
  | cons x r ih =>
    intro k st h
    have h0 := h 0 (Nat.succ_pos _)
    have e0 : ((x :: r).getD 0 (0, 0)) = x := rfl
    rw [e0, Nat.add_zero] at h0
    show (match tyStep (op k) (ar k) st with
      | some s => tyRun op ar (k + 1) r.length s
      | none => none) = (tyStep x.1 x.2 st).bind (tyL r)
    rw [h0.1, h0.2]
    have hn : ∀ j, j < r.length → op (k + 1 + j) = (r.getD j (0, 0)).1 ∧ ar (k + 1 + j) = (r.getD j (0, 0)).2 := by
      intro j hj
      have q := h (j + 1) (Nat.succ_lt_succ hj)
      rw [show k + 1 + j = k + (j + 1) by omega]
      exact q
    cases tyStep x.1 x.2 st with
    | none => rfl
    | some s => exact ih (k + 1) s hn
/-- a line of the law as it lies in both drafts -/
def LN (es : CL) (I J : MI) (i : Nat) : Prop := ∃ v f m t, v < 3 ∧ f ≤ m ∧ m ≤ t ∧ t ≤ es.length ∧ I 97 (4 * i) = nn v ∧ J 219 (32 + i) = nn v ∧ I 97 (4 * i + 1) = nn f ∧ J 220 (32 + i) = nn f ∧ I 97 (4 * i + 2) = nn m ∧ J 221 (32 + i) = nn m ∧ I 97 (4 * i + 3) = nn t ∧ J 222 (32 + i) = nn t ∧ (∃ z, z ≠ 1 ∧ tyRun (opE es) (arE es) f (m - f) [] = some [z]) ∧ (m < t → tyRun (opE es) (arE es) m (t - m) [] = some [1])
theorem LN_app {es nw : CL} {I J : MI} {i : Nat} (h : LN es I J i) : LN (es ++ nw) I J i := by
  obtain ⟨v, f, m, t, h1, h2, h3, h4, a1, a2, a3, a4, a5, a6, a7, a8, ⟨z, hz, r1⟩, r2⟩ := h
  have co : ∀ a b, a ≤ b → b ≤ es.length → tyRun (opE (es ++ nw)) (arE (es ++ nw)) a (b - a) [] = tyRun (opE es) (arE es) a (b - a) [] := fun a b hab hb => tyRun_co _ _ _ fun j q1 q2 => by
    unfold opE arE
    rw [gdA_lt (by omega)]
    exact ⟨rfl, rfl⟩
  refine ⟨v, f, m, t, h1, h2, h3, by rw [List.length_append]; omega, a1, a2, a3, a4, a5, a6, a7, a8, ⟨z, hz, ?_⟩, fun hmt => ?_⟩
  · rw [co f m h2 (by omega)]; exact r1
  · rw [co m t h3 h4]; exact r2 hmt
theorem LN_co {es : CL} {I J I1 J1 : MI} {i : Nat} (h : LN es I J i) (hI : I1 97 = I 97) (h1 : J1 219 = J 219) (h2 : J1 220 = J 220) (h3 : J1 221 = J 221) (h4 : J1 222 = J 222) : LN es I1 J1 i := by
  unfold LN at h ⊢
  rw [hI, h1, h2, h3, h4]
  exact h
theorem LN_up {es : CL} {I J J1 : MI} {i n : Nat} (h : LN es I J i) (hi : i < n) (h1 : ∀ k, k ≠ 32 + n → J1 219 k = J 219 k) (h2 : ∀ k, k ≠ 32 + n → J1 220 k = J 220 k) (h3 : ∀ k, k ≠ 32 + n → J1 221 k = J 221 k) (h4 : ∀ k, k ≠ 32 + n → J1 222 k = J 222 k) : LN es I J1 i := by
  unfold LN at h ⊢
  rw [h1 _ (by omega), h2 _ (by omega), h3 _ (by omega), h4 _ (by omega)]
  exact h
def DF (es : CL) (G : MI × MI) (I J : MI) : Prop := codE es I J ∧ I 96 = G.1 96 ∧ I 97 = G.1 97 ∧ J 219 = G.2 219 ∧ J 220 = G.2 220 ∧ J 221 = G.2 221 ∧ J 222 = G.2 222 ∧ J 207 29 = nn 0
theorem stab_DF {es : CL} {G : MI × MI} : stab (DF es G) := by
  intro I J I1 J1 h1 h2 h3 h
  unfold DF codE at h ⊢
  rw [h1 95 (by omega) (by omega), h1 96 (by omega) (by omega), h1 97 (by omega) (by omega), h1 98 (by omega) (by omega), h2 219 (by omega) (by omega), h2 220 (by omega) (by omega), h2 221 (by omega) (by omega), h2 222 (by omega) (by omega), h2 223 (by omega) (by omega), h2 224 (by omega) (by omega), h3 28 (Or.inl rfl), h3 29 (Or.inr (Or.inl rfl))]
  exact h
section
variable {X : CX} {es : CL} {G : MI × MI} {c : Nat} {I J : MI}
theorem df_sum (hX : Cxt X) (hL : LK X (DF es G) c I J) (hes : es.length ≤ c) : Ok2 F_Reader_sum F_R_readSum I J fun r s I1 J1 => eR X r s I1 J1 ∨ (r = 1 ∧ s = 0 ∧ ∃ c' nw, c < c' ∧ nw.length + c ≤ c' ∧ LK X (DF (es ++ nw) G) c' I1 J1 ∧ ∃ z, z ≠ 1 ∧ tyL nw [] = some [z]) := by
  obtain ⟨a0, a1, a2, a3, a4, a5, a6, a7⟩ := hL.2.2.2
  have hL2 : LK X (DE es (I, J)) c I J := lk_D hL ⟨a0, rfl, rfl, rfl, rfl, rfl, rfl, rfl, rfl, rfl⟩
  refine o2_mono (p_sum hX hL2 hes) fun r s I1 J1 h => ?_
  rcases h with h | ⟨h1, h2, c', nw, h3, h4, h5, h6⟩
  · exact Or.inl h
  · refine Or.inr ⟨h1, h2, c', nw, h3, h4, lk_D h5 ?_, h6 [] (Nat.zero_le _)⟩
    obtain ⟨_, _, _, b0, b1, b2, b3, b4, b5, b6, b7, b8, b9⟩ := h5
    refine ⟨b0, by rw [b1]; exact a1, by rw [b2]; exact a2, by rw [b3]; exact a3, by rw [b4]; exact a4, by rw [b5]; exact a5, by rw [b6]; exact a6, by rw [b8]; exact a7⟩
theorem df_any (hX : Cxt X) (hL : LK X (DF es G) c I J) (hes : es.length ≤ c) : Ok2 (F_Reader_condition 0) F_R_readAny I J fun r s I1 J1 => eR X r s I1 J1 ∨ (r = 1 ∧ s = 0 ∧ ∃ c' nw, c < c' ∧ nw.length + c ≤ c' ∧ LK X (DF (es ++ nw) G) c' I1 J1 ∧ tyL nw [] = some [1]) := by
  obtain ⟨a0, a1, a2, a3, a4, a5, a6, a7⟩ := hL.2.2.2
  have hL2 : LK X (DC es G [] 0) c I (bup J 207 (upd (J 207) 31 (nn 0))) := by
    refine lk_7 hL rfl (by decide) (by decide) (by decide) (by decide) ?_
    refine ⟨codE_J a0 (by decide), a1, a2, ?_, ?_, ?_, ?_, trivial, ?_, ?_⟩
    · rw [bup_ne _ _ (by decide)]; exact a3
    · rw [bup_ne _ _ (by decide)]; exact a4
    · rw [bup_ne _ _ (by decide)]; exact a5
    · rw [bup_ne _ _ (by decide)]; exact a6
    · rw [bup_eq, upd_eq]; rfl
    · rw [bup_eq, upd_ne _ _ (by decide)]; exact a7
  have q := (cs_ok (H := G) hX 60 0 (by decide)).1 (by decide) es [] c I _ 0 FU (fun y r h => by cases h) hL2 hes (Nat.zero_le _) (by rw [FU_eq]; omega) (Nat.le_refl _)
  have eJ : F_R_readAny J = lp B_R_readAny_9 FU (nn 0, 1) (bup J 207 (upd (J 207) 31 (nn 0))) := rfl
  rcases q with ⟨I1, J1, s1, s2, s3⟩ | ⟨I1, c', nw, N', J1, s1, s2, s3, s4, s5, s6, s7⟩
  · exact ⟨0, I1, -1, J1, s1, eJ.trans s2, Or.inl ⟨rfl, rfl, s3⟩⟩
  · refine ⟨1, I1, 0, J1, s1, eJ.trans (s7.trans rfl), Or.inr ⟨rfl, rfl, c', nw, s2, s3, lk_D s6 ?_, s4 [] (Nat.zero_le _)⟩⟩
    obtain ⟨_, _, _, b0, b1, b2, b3, b4, b5, b6, b7, b8, b9⟩ := s6
    exact ⟨b0, b1, b2, b3, b4, b5, b6, b9⟩
/-- all lines so far -/
def DLw (es : CL) (n : Nat) (I J : MI) : Prop := codE es I J ∧ n ≤ 16 ∧ I 96 3 = nn n ∧ J 207 29 = nn 0 ∧ ∀ i, i < n → LN es I J i
def bR (X : CX) (S : Nat → Nat → MI → MI → Prop) (n c : Nat) (r : Int32) (s : Int32 ⊕ (Int32 ⊕ Int32)) (I J : MI) : Prop := (r = 0 ∧ s = .inr (.inr (-1)) ∧ ER X I J) ∨ (r = 1 ∧ s = .inl (nn (n + 1)) ∧ ∃ c', c < c' ∧ S (n + 1) c' I J)
def sLw (X : CX) (n c : Nat) (I J : MI) : Prop := ∃ es : CL, es.length ≤ c ∧ LK X (DLw es n) c I J
theorem law_fin (hX : Cxt X) (h0 : X.2.2.2.1 96 0 = nn 4) (h1 : X.2.2.2.1 96 1 = nn 16) {c0 n v f m : Nat} (hc0 : c0 ≤ c) (hL : LK X (DF es G) c I J) (hes : es.length ≤ c) (hn : n < 16) (hG : G.1 96 3 = nn n) (hln : ∀ i, i < n → LN es G.1 G.2 i) (hv : v < 3) (hfm : f ≤ m) (hm : m ≤ es.length) (g9 : G.2 219 (32 + n) = nn v) (g20 : G.2 220 (32 + n) = nn f) (g21 : G.2 221 (32 + n) = nn m) (hz : ∃ z, z ≠ 1 ∧ tyRun (opE es) (arE es) f (m - f) [] = some [z]) (hz2 : m < es.length → tyRun (opE es) (arE es) m (es.length - m) [] = some [1]) : Ok2 (K_Reader_lawLine_115 (nn v) (nn f) (nn m)) (K_R_readLaw_92 (nn n) (nn (32 + n))) I J (bR X (sLw X) n c0) := by
  obtain ⟨a0, a1, a2, a3, a4, a5, a6, a7⟩ := hL.2.2.2
  have hK : ∃ K, K = bup J 222 (upd (J 222) (32 + n) (nn es.length)) := ⟨_, rfl⟩
  obtain ⟨K, eK⟩ := hK
  have hLK : LK X (DE es (I, K)) c I K := by
    rw [eK]
    refine lk_J hL (by simp [kpJ]) (by decide) ⟨codE_R a0 (by decide) (by decide) (by decide), rfl, rfl, rfl, rfl, rfl, rfl, rfl, rfl, rfl⟩
  unfold K_Reader_lawLine_115 K_R_readLaw_92
  rw [o2R e_rd, a0.2.2.1, o2R (e_sr (inR_nn (by omega) (by omega))), nn_nat (by omega), ← eK]
  have sA := sign_A hX hLK 59
  have sR := sign_R hLK 59 rfl
  unfold F_Reader_stepSign
  rw [bn_bn, o2L sA, o2R sR]
  by_cases hs : KD X c = 4 ∧ VL X c = 59
  · have hk0 : ¬ KD X c = 0 := by rw [hs.1]; decide
    obtain ⟨J1, g1, g2⟩ := p_step hX (stab_DE _ _) hLK hk0
    have w0 : sI I c 96 0 = nn 4 := by
      have := g2.2.1.2.2.2 96 0 rfl
      rw [this]; exact h0
    have w1 : sI I c 96 1 = nn 16 := by
      have := g2.2.1.2.2.2 96 1 rfl
      rw [this]; exact h1
    have w3 : sI I c 96 3 = nn n := by
      have e : sI I c 96 = I 96 := bup_ne _ _ (by decide)
      rw [e, a1]; exact hG
    have w95 : sI I c 95 1 = nn es.length := by
      have e : sI I c 95 = I 95 := bup_ne _ _ (by decide)
      rw [e]; exact a0.2.1
    have put := put_ok (t := 96) (w := 4) (n := n) (r := 16) (a := nn v) (b := nn f) (c := nn m) (d := nn es.length) (e := 0) w0 w3 w1 hn rfl (by decide) (by decide) (by decide)
    rw [if_pos hs, if_neg one_ne, bn_bn, o2L (step_A hX hLK hk0), gdZ1, bn_rt, bn_rt, if_neg one_ne, o2L e_rd, w95, o2L put, if_neg one_ne, o2R g1, nn_s, o2_rt]
    refine Or.inr ⟨rfl, rfl, c + 1, by omega, es, by omega, ?_⟩
    obtain ⟨b1, ⟨b2, b3, b4, b5⟩, b6, d0, d1, d2, d3, d4, d5, d6, d7, d8, d9⟩ := g2
    have e96 : ∀ Z : MI, bup (bup Z 97 (lnF (Z 97) 4 n (nn v) (nn f) (nn m) (nn es.length) 0)) 96 (upd (Z 96) 3 (nn (n + 1))) 96 3 = nn (n + 1) := fun Z => by rw [bup_eq, upd_eq]
    refine ⟨b1, ⟨?_, ?_, ?_, ?_⟩, b6, ⟨?_, by omega, by rw [bup_eq, upd_eq], ?_, fun i hi => ?_⟩⟩
    · rw [bup_ne _ _ (by decide), bup_ne _ _ (by decide)]; exact b2
    · rw [bup_ne _ _ (by decide), bup_ne _ _ (by decide)]; exact b3
    · rw [bup_ne _ _ (by decide), bup_ne _ _ (by decide)]; exact b4
    · have f1 := fi_row (a := 97) (g := lnF (sI I c 97) 4 n (nn v) (nn f) (nn m) (nn es.length) 0) b5 (fun k => by simp [kpI])
      have f2 := fi_set (a := 96) (k := 3) (x := nn (n + 1)) f1 rfl
      rw [bup_ne (b := 96) _ _ (by decide)] at f2
      exact f2
    · unfold codE at d0 ⊢
      rw [bup_ne _ _ (by decide), bup_ne _ _ (by decide), bup_ne _ _ (by decide), bup_ne _ _ (by decide)]
      exact d0
    · rw [d8]
      show K 207 29 = nn 0
      rw [eK, bup_ne _ _ (by decide)]; exact a7
    · have z97 : bup (bup (sI I c) 97 (lnF (sI I c 97) 4 n (nn v) (nn f) (nn m) (nn es.length) 0)) 96 (upd (sI I c 96) 3 (nn (n + 1))) 97 = lnF (sI I c 97) 4 n (nn v) (nn f) (nn m) (nn es.length) 0 := by rw [bup_ne _ _ (by decide), bup_eq]
      have l4 : ∀ g : Nat → Int32, lnF g 4 n (nn v) (nn f) (nn m) (nn es.length) 0 = upd (upd (upd (upd g (4 * n) (nn v)) (4 * n + 1) (nn f)) (4 * n + 2) (nn m)) (4 * n + 3) (nn es.length) := fun g => by unfold lnF; simp [Nat.mul_comm]
      have s97 : sI I c 97 = G.1 97 := by
        have e : sI I c 97 = I 97 := bup_ne _ _ (by decide)
        rw [e]; exact a2
      have j9 : J1 219 = G.2 219 := by rw [d3]; show K 219 = _; rw [eK, bup_ne _ _ (by decide)]; exact a3
      have j20 : J1 220 = G.2 220 := by rw [d4]; show K 220 = _; rw [eK, bup_ne _ _ (by decide)]; exact a4
      have j21 : J1 221 = G.2 221 := by rw [d5]; show K 221 = _; rw [eK, bup_ne _ _ (by decide)]; exact a5
      have j22 : J1 222 = upd (G.2 222) (32 + n) (nn es.length) := by rw [d6]; show K 222 = _; rw [eK, bup_eq, a6]
      unfold LN
      rw [z97, l4, s97, j9, j20, j21, j22]
      by_cases e : i = n
      · subst e
        refine ⟨v, f, m, es.length, hv, hfm, hm, Nat.le_refl _, ?_, g9, ?_, g20, ?_, g21, ?_, by rw [upd_eq], hz, hz2⟩
        · rw [upd_ne _ _ (by omega), upd_ne _ _ (by omega), upd_ne _ _ (by omega), upd_eq]
        · rw [upd_ne _ _ (by omega), upd_ne _ _ (by omega), upd_eq]
        · rw [upd_ne _ _ (by omega), upd_eq]
        · rw [upd_eq]
      · have hin : i < n := by omega
        rw [upd_ne _ _ (by omega), upd_ne _ _ (by omega), upd_ne _ _ (by omega), upd_ne _ _ (by omega), upd_ne _ _ (by omega), upd_ne _ _ (by omega), upd_ne _ _ (by omega), upd_ne _ _ (by omega), upd_ne _ _ (by omega), upd_ne _ _ (by omega), upd_ne _ _ (by omega), upd_ne _ _ (by omega), upd_ne _ _ (by omega), upd_ne _ _ (by omega), upd_ne _ _ (by omega), upd_ne _ _ (by omega), upd_ne _ _ (by omega)]
        exact hln i hin
  · obtain ⟨I1, J1, f1, f2, f3⟩ := p_fail hX hLK 1
    rw [if_neg hs, if_pos rfl, bn_bn, o2L f1, gdZ0, bn_rt, bn_rt, if_pos rfl, if_pos rfl, o2R f2, o2_rt]
    exact Or.inl ⟨rfl, rfl, f3⟩
end
end TQ99
