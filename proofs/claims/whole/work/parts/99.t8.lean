/-! text: one token, reference -/
section TH99
theorem ok_w7 {β : Type} {k : Nat} {x : Int32} {f : Unit → M β} {J : MI} {Q : β → MI → Prop} (h : ∀ K : MI, (∀ a, a ≠ 207 → K a = J a) → K 207 k = x → (∀ j, j ≠ k → K 207 j = J 207 j) → Ok (f ()) K Q) : Ok (bn (wr 207 k x) f) J Q := by
  rw [ok_bn, ok_wr]
  exact h _ (fun a ha => bup_ne _ _ ha) (by rw [bup_eq, upd_eq]) fun j hj => by rw [bup_eq, upd_ne _ _ hj]
def onlyR (J K : MI) : Prop := (∀ a, a ≠ 207 → K a = J a) ∧ ∀ k, k ≠ 15 → k ≠ 16 → k ≠ 17 → k ≠ 18 → K 207 k = J 207 k
theorem digR_st {n s b : Nat} {J : MI} (hn : n ≤ 400) (hs : s < n) (hb : b ≤ s) (h14 : J 207 14 = nn n) (h15 : J 207 15 = nn s) (hd : digC (J 216 s) = true) (hds : ∀ j, j < s - b → digC (J 216 (b + j)) = true) (h18 : s - b ≤ 4 → J 207 18 = numV (J 216) b (s - b)) : Ok (B_R_reads_171 ()) J fun r K => r = .inl () ∧ (∀ a, a ≠ 207 → K a = J a) ∧ (∀ k, k ≠ 15 → k ≠ 18 → K 207 k = J 207 k) ∧ K 207 15 = nn (s + 1) ∧ (s + 1 - b ≤ 4 → K 207 18 = numV (J 216) b (s + 1 - b)) := by
  have hr := raw_R hn (Nat.le_of_lt hs) h14
  rw [if_pos hs] at hr
  unfold B_R_reads_171
  rw [ok_bn, ok_rd, h15, ok_bn, ok_eq hr, dig_R, if_pos hd, ok_bn, ok_rt, ok_ite, if_neg one_ne, ok_bn, ok_rd, ok_ite]
  by_cases hc : J 207 18 < 10000
  · rw [if_pos hc, ok_bn, ok_rd, ok_bn, ok_rd, h15, ok_bn, ok_eq hr]
    refine ok_w7 fun K1 a1 b1 c1 => ?_
    rw [ok_bn, ok_rd, c1 15 (by decide), h15]
    refine ok_w7 fun K2 a2 b2 c2 => ?_
    rw [ok_rt]
    refine ⟨rfl, fun a ha => by rw [a2 a ha, a1 a ha], fun k k1 k2 => by rw [c2 k k1, c1 k k2], by rw [b2, nn_s], fun h4 => ?_⟩
    have e1 : s + 1 - b = (s - b) + 1 := by omega
    have e2 : numV (J 216) b (s - b + 1) = 10 * numV (J 216) b (s - b) + J 216 (b + (s - b)) - 48 := rfl
    rw [c2 18 (by decide), b1, e1, e2, h18 (by omega), show b + (s - b) = s by omega]
  · rw [if_neg hc, ok_bn, ok_rd]
    refine ok_w7 fun K1 a1 b1 c1 => ?_
    rw [ok_bn, ok_rd, c1 15 (by decide), h15]
    refine ok_w7 fun K2 a2 b2 c2 => ?_
    rw [ok_rt]
    refine ⟨rfl, fun a ha => by rw [a2 a ha, a1 a ha], fun k k1 k2 => by rw [c2 k k1, c1 k k2], by rw [b2, nn_s], fun h4 => ?_⟩
    exfalso
    obtain ⟨v, hv, e⟩ := numV_bd (T := J 216) (b := b) (s - b) (by omega) hds
    have hv2 : v < 10000 := Nat.lt_of_lt_of_le hv (Nat.le_trans (Nat.pow_le_pow_right (by decide) (show s - b ≤ 4 by omega)) (by decide))
    apply hc
    rw [h18 (by omega), e]
    exact (nn_lt (k := 10000) (by omega) (by omega)).mpr hv2
theorem digR_run {n b : Nat} (hn : n ≤ 400) : ∀ m s N (J : MI), m + s = n → m < N → b ≤ s → J 207 14 = nn n → J 207 15 = nn s → (∀ j, j < s - b → digC (J 216 (b + j)) = true) → (s - b ≤ 4 → J 207 18 = numV (J 216) b (s - b)) → Ok (lp B_R_reads_171 N ()) J fun _ K => (∀ a, a ≠ 207 → K a = J a) ∧ (∀ k, k ≠ 15 → k ≠ 18 → K 207 k = J 207 k) ∧ K 207 15 = nn (spn digC (J 216) m s) ∧ (spn digC (J 216) m s - b ≤ 4 → K 207 18 = numV (J 216) b (spn digC (J 216) m s - b)) := by
  intro m
  induction m with
  | zero =>
    intro s N J hm hN hb h14 h15 hds h18
    obtain ⟨N, rfl⟩ : ∃ N', N = N' + 1 := ⟨N - 1, by omega⟩
    have st : B_R_reads_171 () J = some (.inr (), J) := by
      have hO : Ok (B_R_reads_171 ()) J fun r K => r = .inr () ∧ K = J := by
        unfold B_R_reads_171
        simp only [ok_bn, ok_rd, h15, ok_eq (raw_R hn (show s ≤ n by omega) h14), if_neg (show ¬ s < n by omega), dig_R, ok_rt, if_neg dig_m1, ok_ite, if_true, and_self]
      obtain ⟨r, K, q1, rfl, rfl⟩ := hO
      exact q1
    rw [lp_s, ok_bn, ok_eq st]
    show Ok (rt ()) _ _
    rw [ok_rt]
    exact ⟨fun _ _ => rfl, fun _ _ _ => rfl, h15, h18⟩
  | succ m ih =>
    intro s N J hm hN hb h14 h15 hds h18
    obtain ⟨N, rfl⟩ : ∃ N', N = N' + 1 := ⟨N - 1, by omega⟩
    have e : spn digC (J 216) (m + 1) s = if digC (J 216 s) = true then spn digC (J 216) m (s + 1) else s := rfl
    rw [e]
    by_cases h : digC (J 216 s) = true
    · rw [lp_s, ok_bn, if_pos h]
      refine ok_mono (digR_st hn (show s < n by omega) hb h14 h15 h hds h18) fun r K q => ?_
      obtain ⟨rfl, q1, q2, q3, q4⟩ := q
      have e6 : K 216 = J 216 := q1 216 (by decide)
      refine ok_mono (ih (s + 1) N K (by omega) (by omega) (by omega) (by rw [q2 14 (by decide) (by decide)]; exact h14) q3 (fun j hj => ?_) (by rw [e6]; exact q4)) fun _ K2 z => ?_
      · rw [e6]
        by_cases hj2 : j < s - b
        · exact hds j hj2
        · rw [show b + j = s by omega]; exact h
      · obtain ⟨z1, z2, z3, z4⟩ := z
        rw [e6] at z3 z4
        exact ⟨fun a ha => by rw [z1 a ha, q1 a ha], fun k k1 k2 => by rw [z2 k k1 k2, q2 k k1 k2], z3, z4⟩
    · have st : B_R_reads_171 () J = some (.inr (), J) := by
        have hO : Ok (B_R_reads_171 ()) J fun r K => r = .inr () ∧ K = J := by
          unfold B_R_reads_171
          simp only [ok_bn, ok_rd, h15, ok_eq (raw_R hn (show s ≤ n by omega) h14), if_pos (show s < n by omega), dig_R, ok_rt, if_neg h, ok_ite, if_true, and_self]
        obtain ⟨r, K, q1, rfl, rfl⟩ := hO
        exact q1
      rw [lp_s, ok_bn, ok_eq st, if_neg h]
      show Ok (rt ()) _ _
      rw [ok_rt]
      exact ⟨fun _ _ => rfl, fun _ _ _ => rfl, h15, h18⟩
def mkC (x : Int32) : Bool := decide (x = 59 ∨ x = 43 ∨ x = 45 ∨ x = 42 ∨ x = 47 ∨ x = 40 ∨ x = 41 ∨ x = 60 ∨ x = 61 ∨ x = 62)
theorem mark_R (x : Int32) : F_R_isMarkSign x = rt (if mkC x = true then 1 else 0) := by
  have h1 : K_R_isMarkSign_60 = rt 1 := rfl
  unfold F_R_isMarkSign mkC
  rw [h1, gdZ0, bn_rt]
  by_cases e1 : x = 59
  · simp [e1]
  by_cases e2 : x = 43
  · simp [e2]
  by_cases e3 : x = 45
  · simp [e3]
  by_cases e4 : x = 42
  · simp [e4]
  by_cases e5 : x = 47
  · simp [e5]
  by_cases e6 : x = 40
  · simp [e6]
  by_cases e7 : x = 41
  · simp [e7]
  by_cases e8 : x = 60
  · simp [e8]
  by_cases e9 : x = 61
  · simp [e9]
  by_cases e10 : x = 62
  · simp [e10]
  simp [e1, e2, e3, e4, e5, e6, e7, e8, e9, e10]
/-- the reference's kind: only its signs are signs -/
def kR (k v : Int32) : Int32 := if k = 4 ∧ ¬ mkC v = true then 1 else k
def rdP (T : Nat → Int32) (n b : Nat) (J K : MI) : Prop := onlyR J K ∧ K 207 15 = nn (tkN T n b) ∧ K 207 16 = nn b ∧ K 207 17 = kR (tkK T n b) (tkV T n b) ∧ ((tkK T n b = 2 ∨ tkK T n b = 3 ∨ tkK T n b = 4) → K 207 18 = tkV T n b)
theorem reads39_R {n b : Nat} {J : MI} (hn : n ≤ 400) (hb : b ≤ n) (h14 : J 207 14 = nn n) (h15 : J 207 15 = nn b) (hT : ∀ k, k < n → ¬ J 216 k = -1) (hW : ∀ k, k < 124 → J 217 k = wdC k) : Ok K_R_reads_39 J fun _ K => rdP (J 216) n b J K := by
  unfold K_R_reads_39
  rw [ok_bn, ok_rd, h15]
  refine ok_w7 fun K1 a1 b1 c1 => ?_
  refine ok_w7 fun K2 a2 b2 c2 => ?_
  have a12 : ∀ a, a ≠ 207 → K2 a = J a := fun a ha => by rw [a2 a ha, a1 a ha]
  have c12 : ∀ j, j ≠ 16 → j ≠ 17 → K2 207 j = J 207 j := fun j h1 h2 => by rw [c2 j h2, c1 j h1]
  have d16 : K2 207 16 = nn b := by rw [c2 16 (by decide), b1]
  have d15 : K2 207 15 = nn b := by rw [c12 15 (by decide) (by decide), h15]
  have d14 : K2 207 14 = nn n := by rw [c12 14 (by decide) (by decide), h14]
  have e6 : K2 216 = J 216 := a12 216 (by decide)
  have hr := raw_R hn hb d14
  rw [e6] at hr
  rw [ok_bn, ok_rd, d15, ok_bn, ok_eq hr]
  by_cases hbn : b < n
  · rw [if_pos hbn, ok_ite, if_neg (hT b hbn), ok_bn, ok_rd, d15, nn_s]
    refine ok_w7 fun K3 a3 b3 c3 => ?_
    refine ok_w7 fun K4 a4 b4 c4 => ?_
    have a14 : ∀ a, a ≠ 207 → K4 a = J a := fun a ha => by rw [a4 a ha, a3 a ha, a12 a ha]
    have c14 : ∀ j, j ≠ 15 → j ≠ 16 → j ≠ 17 → j ≠ 18 → K4 207 j = J 207 j := fun j h1 h2 h3 h4 => by rw [c4 j h4, c3 j h1, c12 j h2 h3]
    have f14 : K4 207 14 = nn n := by rw [c14 14 (by decide) (by decide) (by decide) (by decide), h14]
    have f15 : K4 207 15 = nn (b + 1) := by rw [c4 15 (by decide), b3]
    have f16 : K4 207 16 = nn b := by rw [c4 16 (by decide), c3 16 (by decide), d16]
    have f17 : K4 207 17 = 1 := by rw [c4 17 (by decide), c3 17 (by decide), b2]
    have g6 : K4 216 = J 216 := a14 216 (by decide)
    rw [let_R, ok_bn, ok_rt]
    by_cases hl : letC (J 216 b) = true
    · have eE : tkEd (J 216) n b = spn letC (J 216) (n - (b + 1)) (b + 1) := by unfold tkEd; rw [if_pos hl]
      have le := tkEd_le (T := J 216) hbn
      rw [if_pos hl, ok_ite, if_neg one_ne]
      unfold K_R_reads_95
      rw [ok_bn]
      refine ok_mono (letR_run hn (n - (b + 1)) (b + 1) FU K4 (by omega) (by rw [FU_eq]; omega) f14 f15) fun _ K5 q => ?_
      obtain ⟨⟨q1, q2⟩, q3⟩ := q
      rw [g6, ← eE] at q3
      unfold K_R_reads_123
      have hw := wordAt_R (J := K5) (s := b) (e := tkEd (J 216) n b) (by omega) (by omega) (fun k hk => by rw [q1 217 (by decide), a14 217 (by decide)]; exact hW k hk) (fun k h1 h2 => by
        rw [q1 216 (by decide), g6]
        by_cases hk : k = b
        · rw [hk]; exact let_32 hl
        · exact let_32 (spn_all (n - (b + 1)) (b + 1) k (by omega) (by rw [← eE]; exact h2)))
      rw [q1 216 (by decide), g6] at hw
      rw [ok_bn, ok_rd, q2 16 (by decide), f16, ok_bn, ok_rd, q3, ok_bn, ok_eq hw]
      have eK : tkK (J 216) n b = if kwR (J 216) b (tkEd (J 216) n b) wdL 0 = -1 then 1 else 2 := by unfold tkK; rw [if_pos hbn, if_pos hl]
      have eV : tkV (J 216) n b = kwR (J 216) b (tkEd (J 216) n b) wdL 0 := by unfold tkV; rw [if_pos hbn, if_pos hl]
      have eN : tkN (J 216) n b = tkEd (J 216) n b := by unfold tkN; rw [if_pos hbn]
      refine ok_w7 fun K6 a6 b6 c6 => ?_
      rw [ok_bn, ok_rd, b6, ok_ite]
      have z15 : K6 207 15 = nn (tkN (J 216) n b) := by rw [c6 15 (by decide), q3, eN]
      have z16 : K6 207 16 = nn b := by rw [c6 16 (by decide), q2 16 (by decide), f16]
      have z17 : K6 207 17 = 1 := by rw [c6 17 (by decide), q2 17 (by decide), f17]
      have zo : onlyR J K6 := ⟨fun a ha => by rw [a6 a ha, q1 a ha, a14 a ha], fun k k1 k2 k3 k4 => by rw [c6 k k4, q2 k k1, c14 k k1 k2 k3 k4]⟩
      by_cases hk : kwR (J 216) b (tkEd (J 216) n b) wdL 0 = -1
      · rw [if_pos hk, ok_rt]
        rw [if_pos hk] at eK
        refine ⟨zo, z15, z16, ?_, fun z => ?_⟩
        · rw [z17, eK]; rfl
        · rw [eK] at z; exact absurd z (by decide)
      · rw [if_neg hk]
        rw [if_neg hk] at eK
        refine ok_w7 fun K7 a7 b7 c7 => ?_
        rw [ok_rt]
        refine ⟨⟨fun a ha => by rw [a7 a ha]; exact zo.1 a ha, fun k k1 k2 k3 k4 => by rw [c7 k k3]; exact zo.2 k k1 k2 k3 k4⟩, by rw [c7 15 (by decide), z15], by rw [c7 16 (by decide), z16], ?_, fun _ => by rw [c7 18 (by decide), b6, eV]⟩
        rw [b7, eK]; rfl
    · rw [if_neg hl, ok_ite, if_pos rfl, dig_R, ok_bn, ok_rt]
      by_cases hd : digC (J 216 b) = true
      · have eE : tkEd (J 216) n b = spn digC (J 216) (n - (b + 1)) (b + 1) := by unfold tkEd; rw [if_neg hl, if_pos hd]
        have le := tkEd_le (T := J 216) hbn
        rw [if_pos hd, ok_ite, if_neg one_ne]
        refine ok_w7 fun K5 a5 b5 c5 => ?_
        unfold K_R_reads_171
        have h6 : K5 216 = J 216 := by rw [a5 216 (by decide), g6]
        have n1 : J 216 b - 48 = numV (J 216) b 1 := by
          show _ = 10 * (0 : Int32) + J 216 (b + 0) - 48
          rw [Nat.add_zero, Int32.mul_zero, Int32.zero_add]
        rw [ok_bn]
        refine ok_mono (digR_run hn (b := b) (n - (b + 1)) (b + 1) FU K5 (by omega) (by rw [FU_eq]; omega) (by omega) (by rw [c5 14 (by decide), f14]) (by rw [c5 15 (by decide), f15]) (fun j hj => by rw [h6, show b + j = b by omega]; exact hd) (fun _ => by rw [b5, h6, show b + 1 - b = 1 by omega]; exact n1)) fun _ K6 q => ?_
        obtain ⟨q1, q2, q3, q4⟩ := q
        rw [h6, ← eE] at q3 q4
        have eK : tkK (J 216) n b = if 4 < tkEd (J 216) n b - b then 1 else 3 := by unfold tkK; rw [if_pos hbn, if_neg hl, if_pos hd]
        have eV : tkV (J 216) n b = numV (J 216) b (min (tkEd (J 216) n b - b) 4) := by unfold tkV; rw [if_pos hbn, if_neg hl, if_pos hd]
        have eN : tkN (J 216) n b = tkEd (J 216) n b := by unfold tkN; rw [if_pos hbn]
        have z15 : K6 207 15 = nn (tkN (J 216) n b) := by rw [q3, eN]
        have z16 : K6 207 16 = nn b := by rw [q2 16 (by decide) (by decide), c5 16 (by decide), f16]
        have z17 : K6 207 17 = 1 := by rw [q2 17 (by decide) (by decide), c5 17 (by decide), f17]
        have zo : onlyR J K6 := ⟨fun a ha => by rw [q1 a ha, a5 a ha, a14 a ha], fun k k1 k2 k3 k4 => by rw [q2 k k1 k4, c5 k k4, c14 k k1 k2 k3 k4]⟩
        unfold K_R_reads_239
        rw [ok_bn, ok_rd, q3, ok_bn, ok_rd, z16, nn_sub (by omega), ok_ite]
        have g5 : nn (tkEd (J 216) n b - b) < (5 : Int32) ↔ tkEd (J 216) n b - b < 5 := nn_lt (k := 5) (by omega) (by omega)
        by_cases h5 : tkEd (J 216) n b - b < 5
        · rw [if_pos (g5.mpr h5)]
          rw [if_neg (by omega)] at eK
          refine ok_w7 fun K7 a7 b7 c7 => ?_
          rw [ok_rt]
          refine ⟨⟨fun a ha => by rw [a7 a ha]; exact zo.1 a ha, fun k k1 k2 k3 k4 => by rw [c7 k k3]; exact zo.2 k k1 k2 k3 k4⟩, by rw [c7 15 (by decide), z15], by rw [c7 16 (by decide), z16], ?_, fun _ => ?_⟩
          · rw [b7, eK]; rfl
          · rw [c7 18 (by decide), q4 (by omega), eV, show min (tkEd (J 216) n b - b) 4 = tkEd (J 216) n b - b by omega]
        · rw [if_neg fun z => h5 (g5.mp z), ok_rt]
          rw [if_pos (by omega)] at eK
          refine ⟨zo, z15, z16, ?_, fun z => ?_⟩
          · rw [z17, eK]; rfl
          · rw [eK] at z; exact absurd z (by decide)
      · have eK : tkK (J 216) n b = 4 := by unfold tkK; rw [if_pos hbn, if_neg hl, if_neg hd]
        have eV : tkV (J 216) n b = J 216 b := by unfold tkV; rw [if_pos hbn, if_neg hl, if_neg hd]
        have eN : tkN (J 216) n b = b + 1 := by unfold tkN tkEd; rw [if_pos hbn, if_neg hl, if_neg hd]
        have zo : onlyR J K4 := ⟨a14, c14⟩
        rw [if_neg hd, ok_ite, if_pos rfl, mark_R, ok_bn, ok_rt, ok_ite]
        by_cases hm : mkC (J 216 b) = true
        · rw [if_pos hm, if_neg one_ne]
          refine ok_w7 fun K7 a7 b7 c7 => ?_
          rw [ok_rt]
          refine ⟨⟨fun a ha => by rw [a7 a ha]; exact zo.1 a ha, fun k k1 k2 k3 k4 => by rw [c7 k k3]; exact zo.2 k k1 k2 k3 k4⟩, by rw [c7 15 (by decide), f15, eN], by rw [c7 16 (by decide), f16], ?_, fun _ => by rw [c7 18 (by decide), b4, eV]⟩
          rw [b7, eK, eV]
          unfold kR
          rw [if_neg fun z => z.2 hm]
        · rw [if_neg hm, if_pos rfl, ok_rt]
          refine ⟨zo, by rw [f15, eN], f16, ?_, fun _ => by rw [b4, eV]⟩
          rw [f17, eK, eV]
          unfold kR
          rw [if_pos ⟨rfl, hm⟩]
  · have hbe : b = n := by omega
    have eK : tkK (J 216) n b = 0 := by unfold tkK; rw [if_neg hbn]
    have eN : tkN (J 216) n b = n := by unfold tkN; rw [if_neg hbn]
    rw [if_neg hbn, ok_ite, if_pos rfl]
    refine ok_w7 fun K3 a3 b3 c3 => ?_
    rw [ok_rt]
    refine ⟨⟨fun a ha => by rw [a3 a ha, a12 a ha], fun k k1 k2 k3 k4 => by rw [c3 k k3, c12 k k2 k3]⟩, by rw [c3 15 (by decide), d15, eN, hbe], by rw [c3 16 (by decide), d16], ?_, fun z => ?_⟩
    · rw [b3, eK]; rfl
    · rw [eK] at z; exact absurd z (by decide)
theorem reads_R {n y : Nat} {J : MI} (hn : n ≤ 400) (hy : y ≤ n) (h14 : J 207 14 = nn n) (h15 : J 207 15 = nn y) (hT : ∀ k, k < n → ¬ J 216 k = -1) (hW : ∀ k, k < 124 → J 217 k = wdC k) : Ok F_R_reads J fun _ K => rdP (J 216) n (tkB (J 216) n y) J K := by
  unfold F_R_reads
  rw [ok_bn]
  refine ok_mono (blkR_run hn (n - y) y FU J (by omega) (by rw [FU_eq]; omega) h14 h15) fun _ K q => ?_
  obtain ⟨⟨q1, q2⟩, q3⟩ := q
  have e6 : K 216 = J 216 := q1 216 (by decide)
  have le := tkB_le (T := J 216) hy
  have z := reads39_R (J := K) hn le.2 (by rw [q2 14 (by decide), h14]) q3 (fun k hk => by rw [e6]; exact hT k hk) fun k hk => by rw [q1 217 (by decide)]; exact hW k hk
  rw [e6] at z
  refine ok_mono z fun _ K2 w => ?_
  obtain ⟨⟨w1, w2⟩, w3⟩ := w
  exact ⟨⟨fun a ha => by rw [w1 a ha, q1 a ha], fun k k1 k2 k3 k4 => by rw [w2 k k1 k2 k3 k4, q2 k k1]⟩, w3⟩
end TH99
