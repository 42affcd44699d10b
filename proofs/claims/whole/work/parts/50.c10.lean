/-! speakers, notes -/
section SC10
/-- whether word i holds where the set speaks true -/
def spk (a b t : Nat → Nat) (s i : Nat) : Bool := (s.testBit (a i)) == ((s.testBit (b i)) == decide (t i = 1))
def spA (a b t : Nat → Nat) (n s : Nat) : Bool := (List.range n).all (spk a b t s)
theorem spk_A {I : MI} {n s : Nat} {a b t : Nat → Nat} (hw : I 31 0 = nn 3) (hn : n ≤ 10) (h3 : I 31 3 = nn n) (hs : s < 256) (hc : ∀ i, i < n → a i < 8 ∧ b i < 8 ∧ t i < 2 ∧ I 32 (3 * i) = nn (a i) ∧ I 32 (3 * i + 1) = nn (b i) ∧ I 32 (3 * i + 2) = nn (t i)) : F_Riddles_canSpeakTrue (nn s) I = some (if spA a b t n s = true then 1 else 0, I) := by
  unfold F_Riddles_canSpeakTrue K_Riddles_canSpeakTrue_2 spA
  refine all_lp _ (by omega) (fun k hk => ?_) ?_
  · obtain ⟨c1, c2, c3, c4, c5, c6⟩ := hc k hk
    have hz : siz shT (31 + 1) = 30 := by decide +kernel
    have a0 : F_Table_at 31 (nn k) 0 I = some (nn (a k), I) := by
      have := at_ok (I := I) (t := 31) (w := 3) (n := n) (i := k) (k := 0) hw h3 hk (by decide) (by rw [hz]; omega) (by omega) (by decide) (by omega)
      rw [show (0 : Int32) = nn 0 from rfl, this, Nat.mul_comm k 3]
      exact congrArg (fun v => some (v, I)) c4
    have a1 : F_Table_at 31 (nn k) 1 I = some (nn (b k), I) := by
      have := at_ok (I := I) (t := 31) (w := 3) (n := n) (i := k) (k := 1) hw h3 hk (by decide) (by rw [hz]; omega) (by omega) (by decide) (by omega)
      rw [show (1 : Int32) = nn 1 from rfl, this, Nat.mul_comm k 3]
      exact congrArg (fun v => some (v, I)) c5
    have a2 : F_Table_at 31 (nn k) 2 I = some (nn (t k), I) := by
      have := at_ok (I := I) (t := 31) (w := 3) (n := n) (i := k) (k := 2) hw h3 hk (by decide) (by rw [hz]; omega) (by omega) (by decide) (by omega)
      rw [show (2 : Int32) = nn 2 from rfl, this, Nat.mul_comm k 3]
      exact congrArg (fun v => some (v, I)) c6
    unfold B_Riddles_canSpeakTrue_2
    rw [bn_rd, h3, ite_ap, if_pos ((nn_lt (by omega) (by omega)).mpr hk), bn_of a0, bn_of a1, bn_of a2, bit_nn (by omega) (by omega), bit_nn (by omega) (by omega), nn_s]
    unfold spk
    have ht : t k = 0 ∨ t k = 1 := by omega
    rcases ht with ht | ht <;> rw [ht] <;> cases h1 : s.testBit (a k) <;> cases h2 : s.testBit (b k) <;> rfl
  · unfold B_Riddles_canSpeakTrue_2
    rw [bn_rd, h3, ite_ap, if_neg (by rw [nn_lt (by omega) (by omega)]; omega)]
    rfl
theorem spk_R {J : MI} {n s : Nat} {a b t : Nat → Nat} (hn : n ≤ 10) (h3 : J 207 53 = nn n) (hs : s < 256) (hc : ∀ i, i < n → a i < 8 ∧ b i < 8 ∧ t i < 2 ∧ J 238 i = nn (a i) ∧ J 239 i = nn (b i) ∧ J 240 i = nn (t i)) : F_R_canSpeak (nn s) J = some (if spA a b t n s = true then 1 else 0, J) := by
  unfold F_R_canSpeak K_R_canSpeak_2 spA
  refine all_lp _ (by omega) (fun k hk => ?_) ?_
  · obtain ⟨c1, c2, c3, c4, c5, c6⟩ := hc k hk
    unfold B_R_canSpeak_2
    rw [bn_rd, h3, ite_ap, if_pos ((nn_lt (by omega) (by omega)).mpr hk), bn_ld _ _ (inR_nn (by omega) (by omega)), nn_nat (by omega), c4, has_nn (by omega) (by omega), bn_rt, bn_ld _ _ (inR_nn (by omega) (by omega)), nn_nat (by omega), c5, has_nn (by omega) (by omega), bn_rt, bn_ld _ _ (inR_nn (by omega) (by omega)), nn_nat (by omega), c6, nn_s]
    unfold spk
    have ht : t k = 0 ∨ t k = 1 := by omega
    rcases ht with ht | ht <;> rw [ht] <;> cases h1 : s.testBit (a k) <;> cases h2 : s.testBit (b k) <;> rfl
  · unfold B_R_canSpeak_2
    rw [bn_rd, h3, ite_ap, if_neg (by rw [nn_lt (by omega) (by omega)]; omega)]
    rfl
/-- ways, most, sure, and the set that is next -/
def spS (c : Nat → Bool) : Nat → Int32 × Int32 × Int32
  | 0 => (0, -1, 255)
  | s + 1 => if c s = true then ((spS c s).1 + 1, (if (spS c s).2.1 < nn (pcN s) then nn (pcN s) else (spS c s).2.1), (spS c s).2.2 &&& nn s) else spS c s
theorem true_A {I : MI} {n : Nat} {x : Int32} {a b t : Nat → Nat} (hw : I 31 0 = nn 3) (hn : n ≤ 10) (h3 : I 31 3 = nn n) (hc : ∀ i, i < n → a i < 8 ∧ b i < 8 ∧ t i < 2 ∧ I 32 (3 * i) = nn (a i) ∧ I 32 (3 * i + 1) = nn (b i) ∧ I 32 (3 * i + 2) = nn (t i)) : lp (B_Riddles_trueSpeakers_12 x) FU (0, -1, 255, 0) I = some (spS (spA a b t n) 256, I) := by
  refine lp_val (body := B_Riddles_trueSpeakers_12 x) (e := spS (spA a b t n) 256) (fun s => ((spS (spA a b t n) s).1, (spS (spA a b t n) s).2.1, (spS (spA a b t n) s).2.2, nn s)) 256 (fun s hs => ?_) ?_ FU (by rw [FU_eq]; decide)
  · unfold B_Riddles_trueSpeakers_12
    dsimp only
    rw [ite_ap, if_pos (show nn s < 256 from (nn_lt (j := s) (k := 256) (by omega) (by decide)).mpr hs), bn_of (spk_A hw hn h3 hs hc), ite_ap, nn_s]
    show _ = some (Sum.inl (_, _, _, _), I)
    conv => rhs; unfold spS
    by_cases h : spA a b t n s = true
    · simp only [if_pos h]
      rw [if_neg one_ne, bc_nn (by omega), bn_rt]
      rfl
    · simp only [if_neg h]
      rw [if_pos trivial]
      rfl
  · unfold B_Riddles_trueSpeakers_12
    dsimp only
    generalize spS (spA a b t n) 256 = S
    rw [ite_ap, if_neg (show ¬ nn 256 < 256 by decide)]
    rfl
theorem true_R {J : MI} {n : Nat} {x : Int32} {a b t : Nat → Nat} (hn : n ≤ 10) (h3 : J 207 53 = nn n) (hc : ∀ i, i < n → a i < 8 ∧ b i < 8 ∧ t i < 2 ∧ J 238 i = nn (a i) ∧ J 239 i = nn (b i) ∧ J 240 i = nn (t i)) : lp (B_R_speakers_29 x) FU (0, -1, 255, 0) J = some (spS (spA a b t n) 256, J) := by
  refine lp_val (body := B_R_speakers_29 x) (e := spS (spA a b t n) 256) (fun s => ((spS (spA a b t n) s).1, (spS (spA a b t n) s).2.1, (spS (spA a b t n) s).2.2, nn s)) 256 (fun s hs => ?_) ?_ FU (by rw [FU_eq]; decide)
  · unfold B_R_speakers_29
    dsimp only
    rw [ite_ap, if_pos (show nn s < 256 from (nn_lt (j := s) (k := 256) (by omega) (by decide)).mpr hs), bn_of (spk_R hn h3 hs hc), ite_ap, nn_s]
    show _ = some (Sum.inl (_, _, _, _), J)
    conv => rhs; unfold spS
    by_cases h : spA a b t n s = true
    · simp only [if_pos h]
      rw [if_neg one_ne, on_nn (by omega), bn_rt, gr_R, bn_rt, max_comm]
      rfl
    · simp only [if_neg h]
      rw [if_pos trivial]
      rfl
  · unfold B_R_speakers_29
    dsimp only
    generalize spS (spA a b t n) 256 = S
    rw [ite_ap, if_neg (show ¬ nn 256 < 256 by decide)]
    rfl
theorem c_speakers (x : Int32) : Call (F_A_speakers x) (F_R_speakers x) := by
  refine call_of fun I J hr => ?_
  obtain ⟨⟨-, -, -, -, -, -, -, -, k9, -⟩, -, -, -, kc⟩ := id hr
  obtain ⟨n, hn, hI, hJ, hc⟩ := k9
  obtain ⟨tw, tr⟩ := con_at kc (t := 31) (w := 3) (r := 10) (by decide)
  have ch : ∀ i, ∃ q : Nat × Nat × Nat, i < n → q.1 < 8 ∧ q.2.1 < 8 ∧ q.2.2 < 2 ∧ I 32 (3 * i) = nn q.1 ∧ I 32 (3 * i + 1) = nn q.2.1 ∧ I 32 (3 * i + 2) = nn q.2.2 ∧ J 238 i = nn q.1 ∧ J 239 i = nn q.2.1 ∧ J 240 i = nn q.2.2 := by
    intro i
    by_cases hi : i < n
    · obtain ⟨⟨m1, a1, a2, a3⟩, ⟨m2, b1, b2, b3⟩, m3, d1, d2, d3⟩ := hc i hi
      exact ⟨(m1, m2, m3), fun _ => ⟨a1, b1, d1, a2, b2, d2, a3, b3, d3⟩⟩
    · exact ⟨(0, 0, 0), fun h => absurd h hi⟩
  obtain ⟨q, hq⟩ := Classical.axiomOfChoice ch
  have tA := true_A (x := x) (a := fun i => (q i).1) (b := fun i => (q i).2.1) (t := fun i => (q i).2.2) tw hn hI (fun i hi => by
    obtain ⟨a1, a2, a3, a4, a5, a6, -⟩ := hq i hi
    exact ⟨a1, a2, a3, a4, a5, a6⟩)
  have tR := true_R (J := bup J 207 (upd (J 207) 0 0)) (x := x) (a := fun i => (q i).1) (b := fun i => (q i).2.1) (t := fun i => (q i).2.2) hn (by exact hJ) (fun i hi => by
    obtain ⟨a1, a2, a3, a4, a5, a6, a7, a8, a9⟩ := hq i hi
    exact ⟨a1, a2, a3, a7, a8, a9⟩)
  unfold F_A_speakers F_R_speakers F_Riddles_trueSpeakers K_Riddles_trueSpeakers_12 K_Riddles_trueSpeakers_55 K_R_speakers_29 K_R_speakers_78
  rcases rng (v := x) 0 2 (by decide) (by decide) with ⟨k, -, a2, rfl⟩ | out
  · have qq := rng_in (a := 0) (b := 2) (by decide) (Nat.zero_le k) a2
    have wA : F_A_within (nn k) 0 2 = rt 1 := wi_in qq.1 qq.2
    have wR : F_R_isIn (nn k) 0 2 = rt 1 := ri_in qq.1 qq.2
    generalize spS (spA (fun i => (q i).1) (fun i => (q i).2.1) (fun i => (q i).2.2) n) 256 = S at tA tR
    match k, a2 with
    | 0, _ =>
      simp (decide := true) only [ok_bn, ok_wr, ok_rt, ok_ite, wA, wR, ok_eq tA, ok_eq tR, if_true, if_false, true_and]
      exact rl_told hr
    | 1, _ =>
      simp (decide := true) only [ok_bn, ok_wr, ok_rt, ok_ite, wA, wR, ok_eq tA, ok_eq tR, if_true, if_false, true_and]
      exact rl_told hr
    | 2, _ =>
      by_cases h0 : S.1 = 0
      · simp (decide := true) only [ok_bn, ok_wr, ok_rt, ok_ite, wA, wR, ok_eq tA, ok_eq tR, if_pos h0, if_true, if_false, true_and]
        exact rl_told hr
      · simp (decide := true) only [ok_bn, ok_wr, ok_rt, ok_ite, wA, wR, ok_eq tA, ok_eq tR, if_neg h0, if_true, if_false, true_and]
        exact rl_told hr
    | k + 3, h => omega
  · have wA : F_A_within x 0 2 = rt 0 := wi_out out
    have wR : F_R_isIn x 0 2 = rt 0 := ri_out out
    simp (decide := true) only [ok_bn, ok_wr, ok_rt, ok_ite, wA, wR, if_true, if_false, true_and]
    exact rl_told hr
end SC10
