/-! names: the least number over all sets, reference -/
section NN99
theorem fewN_R {J : MI} {n : Nat} {L f g o : Nat → Nat} (hG : ∀ K : MI, (∀ a, a ≠ 237 → K a = J a) → GRP L K) (hc : ∀ i, i < n → f i < 10 ∧ g i < 10) (hm : ∀ s, s < 10 → ∃ m, m < 1024 ∧ J 236 s = nn m ∧ ∀ b, b < 10 → (m.testBit b = true ↔ ∃ i, i < n ∧ o i = 0 ∧ ((f i = s ∧ g i = b) ∨ (g i = s ∧ f i = b)))) : ∃ v K, F_R_fewestNamed J = some (v, K) ∧ (∀ a, a ≠ 237 → K a = J a) ∧ VAL (OK1 L f g o n) 1023 1023 v := by
  have hO : Ok F_R_fewestNamed J fun v K => (∀ a, a ≠ 237 → K a = J a) ∧ VAL (OK1 L f g o n) 1023 1023 v := by
    unfold F_R_fewestNamed K_R_fewestNamed_2
    rw [ok_bn]
    refine ok_mono (Q := fun _ K => (∀ a, a ≠ 237 → K a = J a) ∧ ∀ T, T < 1024 → K 237 T = if T = 0 then 0 else nn 100000000) ?_ fun _ K hK => ?_
    · refine ok_lp (fun y x K => x = nn y ∧ (∀ a, a ≠ 237 → K a = J a) ∧ ∀ T, T < y → K 237 T = if T = 0 then 0 else nn 100000000) 1024 (fun y x K hy hP => ?_) (fun x K hP => ?_) FU 0 J (by rw [FU_eq]; omega) ⟨rfl, fun _ _ => rfl, fun T h => absurd h (by omega)⟩
      · obtain ⟨rfl, p1, p2⟩ := hP
        have gy : nn y < 1024 := (nn_lt (k := 1024) (by omega) (by omega)).mpr hy
        have iy : inR (nn y) 1024 = true := inR_nn hy (by omega)
        have ty : (nn y).toNatClampNeg = y := nn_nat (by omega)
        have fin : ∀ v : Int32, (v = if y = 0 then 0 else nn 100000000) → (∀ a, a ≠ 237 → bup K 237 (upd (K 237) y v) a = J a) ∧ ∀ T, T < y + 1 → bup K 237 (upd (K 237) y v) 237 T = if T = 0 then 0 else nn 100000000 := fun v hv => by
          refine ⟨fun a h => by rw [bup_ne _ _ h]; exact p1 a h, fun T hT => ?_⟩
          rw [bup_eq]
          by_cases e : T = y
          · rw [e, upd_eq]; exact hv
          · rw [upd_ne _ _ e]; exact p2 T (by omega)
        unfold B_R_fewestNamed_2
        by_cases y0 : y = 0
        · have g : nn y = 0 := by rw [y0]; rfl
          simp only [ok_ite, if_pos gy, if_pos g, ok_bn, ok_sr, iy, ty, ok_rt, nn_s, true_and]
          exact fin 0 (by rw [if_pos y0])
        · have g : ¬ nn y = 0 := nn_ne (k := 0) (by omega) (by omega) y0
          simp only [ok_ite, if_pos gy, if_neg g, ok_bn, ok_sr, iy, ty, ok_rt, nn_s, true_and]
          exact fin 100000000 (by rw [if_neg y0]; rfl)
      · obtain ⟨rfl, p1, p2⟩ := hP
        have gy : ¬ nn 1024 < 1024 := by decide
        unfold B_R_fewestNamed_2
        simp only [ok_ite, if_neg gy, ok_rt]
        exact ⟨p1, p2⟩
    · obtain ⟨k1, k2⟩ := hK
      unfold K_R_fewestNamed_32 K_R_fewestNamed_34
      refine ok_lp (fun y x K => x = nn (y + 1) ∧ (∀ a, a ≠ 237 → K a = J a) ∧ ∀ T, T < 1024 → VAL (OK1 L f g o n) y T (K 237 T)) 1023 (fun y x K hy hP => ?_) (fun x K hP => ?_) FU 1 K (by rw [FU_eq]; omega) ⟨rfl, k1, fun T hT => by rw [k2 T hT]; exact val_0⟩
      · obtain ⟨rfl, p1, p2⟩ := hP
        have gy : nn (y + 1) < 1024 := (nn_lt (k := 1024) (by omega) (by omega)).mpr (by omega)
        obtain ⟨e, q1, q2⟩ := one_R (S := y + 1) (by omega) (hG K p1) hc (fun s hs => by rw [p1 236 (by decide)]; exact hm s hs)
        unfold B_R_fewestNamed_34
        rcases q2 with ⟨rfl, q2⟩ | ⟨rfl, q2⟩
        · simp only [ok_ite, if_pos gy, ok_bn, ok_eq q1, if_neg one_ne, cmp_nn]
          unfold K_R_fewestNamed_62 K_R_fewestNamed_111
          rw [ok_bn]
          have cl := cmp_lt (y + 1)
          refine ok_mono (dp_in (J := J) (by omega) q2 (cmp (y + 1)) cl ((cmp_sub cl).mp (Nat.and_self _)) FU K (by rw [FU_eq]; omega) p1 (fun z hz hzd hle => ?_) (fun T hT _ => p2 T hT)) fun _ K2 h => ?_
          · exfalso
            have q : z &&& cmp (y + 1) ≤ cmp (y + 1) := Nat.and_le_right
            rw [(cmp_sub hz).mpr hzd] at q
            omega
          · rw [ok_rt, nn_s]
            exact ⟨rfl, h.1, h.2⟩
        · simp only [ok_ite, if_pos gy, ok_bn, ok_eq q1, if_true]
          unfold K_R_fewestNamed_111
          rw [ok_rt, nn_s]
          exact ⟨rfl, p1, fun T hT => val_no q2 (p2 T hT)⟩
      · obtain ⟨rfl, p1, p2⟩ := hP
        have gy : ¬ nn (1023 + 1) < 1024 := by decide
        have i1 : inR (1023 : Int32) 1024 = true := by decide
        have t1 : (1023 : Int32).toNatClampNeg = 1023 := by decide
        unfold B_R_fewestNamed_34
        simp only [ok_ite, if_neg gy, ok_bn, ok_ld, i1, t1, ok_rt, true_and]
        exact ⟨p1, p2 1023 (by omega)⟩
  obtain ⟨v, K, q1, q2⟩ := hO
  exact ⟨v, K, q1, q2⟩
end NN99
