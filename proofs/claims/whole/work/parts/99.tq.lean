/-! text: from the first token to the last -/
section TZ99
variable {X : CX} {I J : MI}
theorem first_read (hX : Cxt X) (hI : cA X 0 I) (hJ : FJ X.2.2.2.2 J) (h15 : J 207 15 = nn 0) : ∃ J2, F_R_reads J = some ((), J2) ∧ onlyR J J2 ∧ LK X (fun _ _ => True) 0 I J2 := by
  obtain ⟨x1, x2, x3, x4, x5, x6, x7, x8, x9⟩ := hX
  have h14 : J 207 14 = nn X.2.1 := by rw [hJ 207 14 rfl]; exact x6
  have hT : ∀ k, k < X.2.1 → J 216 k = X.1 k := fun k hk => by rw [hJ 216 k rfl]; exact x7 k hk
  obtain ⟨u, J1, q1, q2⟩ := reads_R (J := J) (n := X.2.1) (y := 0) x1 (Nat.zero_le _) h14 h15 (fun k hk => by rw [hT k hk]; exact x8 k hk) (fun k hk => by rw [hJ 217 k rfl]; exact x9 k hk)
  have eS : tkB (J 216) X.2.1 0 = stc X.1 X.2.1 0 := by rw [tkB_co hT (Nat.zero_le _)]; rfl
  rw [eS] at q2
  obtain ⟨⟨w1, w2⟩, w3, w4, w5, w6⟩ := q2
  rw [tkN_co hT] at w3
  rw [tkK_co hT, tkV_co hT] at w5
  rw [tkK_co hT, tkV_co hT] at w6
  refine ⟨J1, q1, ⟨w1, w2⟩, Nat.zero_le _, hI, ⟨w3, w4, w5, w6, fun a k hk => ?_⟩, trivial⟩
  by_cases ea : a = 207
  · subst ea
    rw [w2 k (fun e => by rw [e] at hk; cases hk) (fun e => by rw [e] at hk; cases hk) (fun e => by rw [e] at hk; cases hk) (fun e => by rw [e] at hk; cases hk)]
    exact hJ 207 k hk
  · rw [w1 a ea]; exact hJ a k hk
def OUT (X : CX) (S : Nat → Nat → MI → MI → Prop) (x : Int32) (lineA : M Int32) (I : MI) (G : M Int32) (J : MI) : Prop := (∃ I1 J1, lp (bodA x lineA) FU 0 I = some (-1, I1) ∧ G J = some (-1, J1) ∧ ER X I1 J1) ∨ (∃ n c I1 J1, S n c I1 J1 ∧ lp (bodA x lineA) FU 0 I = F_Texts_take 15 x 94 I1 ∧ G J = some (nn n, J1))
theorem go_law (hX : Cxt X) (h0 : X.2.2.2.1 96 0 = nn 4) (h1 : X.2.2.2.1 96 1 = nn 16) (i96 : I 96 3 = nn 0) (i95 : I 95 1 = nn 0) (j28 : J 207 28 = nn 0) (j29 : J 207 29 = nn 0) (hL : LK X (fun _ _ => True) 0 I J) : OUT X (sLw X) 0 F_Reader_lawLine I F_R_readLaw J := by
  have hs : sLw X 0 0 I J := ⟨[], Nat.le_refl _, lk_D hL ⟨⟨Nat.zero_le _, i95, j28, fun k hk => absurd hk (Nat.not_lt_zero _)⟩, Nat.zero_le _, i96, j29, fun i hi => absurd hi (Nat.not_lt_zero _)⟩⟩
  have e : F_R_readLaw = bn (lp B_R_readLaw_2 FU (nn 0)) (Sum.elim rEnd rt) := by
    unfold F_R_readLaw K_R_readLaw_2
    congr 1
    funext e
    cases e <;> rfl
  rw [e]
  refine text_go hX (w := wLw X) (fun n c I J h => ?_) (fun c h => ?_) (fun n c I J h hw => law_yes hX h0 h1 h hw) (fun n c I J h hw => ?_) 401 0 0 I J FU FU (by omega) hs (by rw [FU_eq]; omega) (by rw [FU_eq]; omega)
  · obtain ⟨es, _, h⟩ := h
    exact ⟨h.2.2.2.2.1, _, h⟩
  · rw [h.1]; decide
  · obtain ⟨es, _, h⟩ := h
    exact law_no hX h hw _
theorem go_sha (hX : Cxt X) (h0 : X.2.2.2.1 100 0 = nn 4) (h1 : X.2.2.2.1 100 1 = nn 16) (hna : X.2.2.2.2 207 7 = X.2.2.2.1 2 8) (i100 : I 100 3 = nn 0) (hL : LK X (fun _ _ => True) 0 I J) : OUT X (sSh X) 1 F_Reader_shareLine I F_R_readShares J := by
  have hs : sSh X 0 0 I J := lk_D hL ⟨Nat.zero_le _, i100, fun i hi => absurd hi (Nat.not_lt_zero _), fun j hj => absurd hj (Nat.not_lt_zero _)⟩
  have e : F_R_readShares = bn (lp B_R_readShares_2 FU (nn 0)) (Sum.elim rEnd rt) := by
    unfold F_R_readShares K_R_readShares_2
    congr 1
    funext e
    cases e <;> rfl
  rw [e]
  refine text_go hX (w := wSh X) (fun n c I J h => ⟨h.2.2.2.1, _, h⟩) (fun c h => ?_) (fun n c I J h hw => sh_yes hX h0 h1 hna h hw) (fun n c I J h hw => sh_no hX h hw _) 401 0 0 I J FU FU (by omega) hs (by rw [FU_eq]; omega) (by rw [FU_eq]; omega)
  rw [h.1]; decide
theorem go_dia {np na : Nat} (hX : Cxt X) (h0 : X.2.2.2.1 102 0 = nn 5) (h1 : X.2.2.2.1 102 1 = nn 16) (p1 : X.2.2.2.1 2 7 = nn np) (p2 : X.2.2.2.2 207 6 = nn np) (p3 : np ≤ 6) (q1 : X.2.2.2.1 2 8 = nn na) (q2 : X.2.2.2.2 207 7 = nn na) (q3 : na ≤ 18) (i102 : I 102 3 = nn 0) (hL : LK X (fun _ _ => True) 0 I J) : OUT X (sDi np na X) 2 F_Reader_diaryLine I F_R_readDiary J := by
  have hs : sDi np na X 0 0 I J := lk_D hL ⟨Nat.zero_le _, i102, fun i hi => absurd hi (Nat.not_lt_zero _), fun j hj => absurd hj (Nat.not_lt_zero _)⟩
  have e : F_R_readDiary = bn (lp B_R_readDiary_2 FU (nn 0)) (Sum.elim rEnd rt) := by
    unfold F_R_readDiary K_R_readDiary_2
    congr 1
    funext e
    cases e <;> rfl
  rw [e]
  refine text_go hX (w := wDi X) (fun n c I J h => ⟨h.2.2.2.1, _, h⟩) (fun c h => ?_) (fun n c I J h hw => di_yes hX h0 h1 p1 p2 p3 q1 q2 q3 h hw) (fun n c I J h hw => di_no hX h hw _) 401 0 0 I J FU FU (by omega) hs (by rw [FU_eq]; omega) (by rw [FU_eq]; omega)
  rw [h.1]; decide
theorem go_way (hX : Cxt X) (h0 : X.2.2.2.1 104 0 = nn 2) (h1 : X.2.2.2.1 104 1 = nn 16) (i104 : I 104 3 = nn 0) (hL : LK X (fun _ _ => True) 0 I J) : OUT X (sWa X) 3 F_Reader_wayLine I F_R_readStreets J := by
  have fill : Ok (lp B_R_readStreets_2 FU 0) J fun _ K => LK X (fun _ _ => True) 0 I K ∧ ∀ s, s < 10 → K 228 (10 + s) = 0 := by
    refine ok_lp (fun k (y : Int32) (K : MI) => y = nn k ∧ LK X (fun _ _ => True) 0 I K ∧ ∀ s, s < k → K 228 (10 + s) = 0) 10 (fun k y K hk h => ?_) (fun y K h => ?_) FU 0 J (by rw [FU_eq]; omega) ⟨rfl, hL, fun s hs => absurd hs (Nat.not_lt_zero _)⟩
    · obtain ⟨rfl, h1, h2⟩ := h
      have g : nn k < (10 : Int32) := (nn_lt (k := 10) (by omega) (by omega)).mpr (by omega)
      have xs : (10 : Int32) + nn k = nn (10 + k) := nn_add 10 k
      have i2 : inR (nn (10 + k)) 20 = true := inR_nn (by omega) (by omega)
      have t2 : (nn (10 + k)).toNatClampNeg = 10 + k := nn_nat (by omega)
      unfold B_R_readStreets_2
      rw [ok_ite, if_pos g, xs, ok_bn, ok_sr, t2]
      refine ⟨i2, ok_rt.mpr ⟨nn_s k, lk_J h1 (by simp [kpJ]) (by decide) trivial, fun s hs => ?_⟩⟩
      rw [bup_eq]
      by_cases e : s = k
      · rw [e, upd_eq]
      · rw [upd_ne _ _ (by omega)]; exact h2 s (by omega)
    · obtain ⟨rfl, h1, h2⟩ := h
      unfold B_R_readStreets_2
      rw [ok_ite, if_neg (by decide), ok_rt]
      exact ⟨h1, h2⟩
  obtain ⟨u, K, f1, f2, f3⟩ := fill
  have hs : sWa X 0 0 I K := ⟨fun _ => 0, fun _ => 0, lk_D f2 ⟨Nat.zero_le _, i104, fun i hi => absurd hi (Nat.not_lt_zero _), fun s hs => ⟨0, by decide, f3 s hs, fun b hb => ⟨fun z => absurd z (by rw [Nat.zero_testBit]; decide), fun ⟨i, i1, _⟩ => absurd i1 (Nat.not_lt_zero _)⟩⟩⟩⟩
  have e : F_R_readStreets J = bn (lp B_R_readStreets_26 FU (nn 0)) (Sum.elim rEnd rt) K := by
    unfold F_R_readStreets K_R_readStreets_2
    rw [bn_of f1]
    have e2 : K_R_readStreets_24 = bn (lp B_R_readStreets_26 FU (nn 0)) (Sum.elim rEnd rt) := by
      unfold K_R_readStreets_24 K_R_readStreets_26
      congr 1
      funext e
      cases e <;> rfl
    rw [e2]
  have z := text_go hX (S := sWa X) (x1 := 3) (lineA := F_Reader_wayLine) (Bt := B_R_readStreets_26) (w := wWa X) (fun n c I J h => by
    obtain ⟨f, g, h⟩ := h
    exact ⟨h.2.2.2.1, _, h⟩) (fun c h => by rw [h.1]; decide) (fun n c I J h hw => wa_yes hX h0 h1 h hw) (fun n c I J h hw => by
    obtain ⟨f, g, h⟩ := h
    exact wa_no hX h hw _) 401 0 0 I K FU FU (by omega) hs (by rw [FU_eq]; omega) (by rw [FU_eq]; omega)
  unfold OUT
  rw [e]
  exact z
end TZ99
