/-! Kuhn's search: what it finds, and what it has seen when it finds nothing -/
section KU93
def own (p : Nat) : Int32 := if p < 10 then nn p else -1
def upN (o : Nat → Nat) (k x : Nat) : Nat → Nat := fun y => if y = k then x else o y
theorem upN_eq (o : Nat → Nat) (k x : Nat) : upN o k x k = x := if_pos rfl
theorem upN_ne (o : Nat → Nat) {k y : Nat} (x : Nat) (h : y ≠ k) : upN o k x y = o y := if_neg h
def MS (r0 : Nat) (I : MI) (W : Nat) (o : Nat → Nat) (I1 : MI) : Prop := (∀ a, a ≠ r0 → a ≠ r0 + 2 → I1 a = I a) ∧ I1 r0 2 = nn W ∧ ∀ y, y < 10 → I1 (r0 + 2) y = own (o y)
theorem ms_vis {r0 W W1 : Nat} {I I1 : MI} {o : Nat → Nat} (h : MS r0 I W o I1) : MS r0 I W1 o (bup I1 r0 (upd (I1 r0) 2 (nn W1))) := by
  refine ⟨fun a h1 h2 => ?_, ?_, fun y hy => ?_⟩
  · rw [bup_ne _ _ h1]; exact h.1 a h1 h2
  · rw [bup_eq, upd_eq]
  · rw [bup_ne _ _ (by omega)]; exact h.2.2 y hy
theorem ms_set {r0 W k x : Nat} {I I1 : MI} {o : Nat → Nat} (hx : x < 10) (h : MS r0 I W o I1) : MS r0 I W (upN o k x) (bup I1 (r0 + 2) (upd (I1 (r0 + 2)) k (nn x))) := by
  refine ⟨fun a h1 h2 => ?_, ?_, fun y hy => ?_⟩
  · rw [bup_ne _ _ h2]; exact h.1 a h1 h2
  · rw [bup_ne _ _ (by omega)]; exact h.2.1
  · rw [bup_eq]
    by_cases e : y = k
    · subst e; rw [upd_eq, upN_eq]; unfold own; rw [if_pos hx]
    · rw [upd_ne _ _ e, upN_ne _ _ e]; exact h.2.2 y hy
theorem vis {A W k : Nat} (hk : k < 10) : (nn A &&& (nn W ^^^ (-1 : Int32))) &&& ((1 : Int32) <<< (nn k &&& 31)) = 0 ↔ ¬ (A.testBit k = true ∧ W.testBit k = false) := by
  rw [shl_nn (by omega)]
  have b : ∀ i, i < 32 → ((nn A &&& (nn W ^^^ (-1 : Int32))) &&& nn (2 ^ k)).toBitVec.getLsbD i = ((A.testBit i && (W.testBit i ^^ true)) && decide (k = i)) := by
    intro i hi
    have e : ((nn A &&& (nn W ^^^ (-1 : Int32))) &&& nn (2 ^ k)).toBitVec = (BitVec.ofNat 32 A &&& (BitVec.ofNat 32 W ^^^ BitVec.ofNat 32 4294967295)) &&& BitVec.ofNat 32 (2 ^ k) := rfl
    have h1 : (4294967295 : Nat).testBit i = true := by
      have : (4294967295 : Nat) = 2 ^ 32 - 1 := by decide
      rw [this, Nat.testBit_two_pow_sub_one, decide_eq_true hi]
    rw [e, BitVec.getLsbD_and, BitVec.getLsbD_and, BitVec.getLsbD_xor, bv_tb hi, bv_tb hi, bv_tb hi, bv_tb hi, Nat.testBit_two_pow, h1]
  constructor
  · intro h hc
    have q := b k (by omega)
    rw [h, hc.1, hc.2, decide_eq_true rfl] at q
    have z : (0 : Int32).toBitVec.getLsbD k = false := by
      show (0#32).getLsbD k = false
      simp
    rw [z] at q
    cases q
  · intro h
    apply bv_inj
    apply BitVec.eq_of_getLsbD_eq
    intro i hi
    rw [b i hi]
    have z : (0 : Int32).toBitVec.getLsbD i = false := by
      show (0#32).getLsbD i = false
      simp
    rw [z]
    by_cases e : k = i
    · subst e
      cases hA : A.testBit k with
      | false => rfl
      | true =>
        cases hW : W.testBit k with
        | false => exact absurd ⟨hA, hW⟩ h
        | true => rfl
    · rw [decide_eq_false e, Bool.and_false]
def FSucc (al : Nat → Nat → Bool) (x W : Nat) (o p : Nat → Nat) : Prop := (∀ y, y < 10 → W.testBit y = true → p y = o y) ∧ (∀ y, y < 10 → W.testBit y = false → p y < 10 → al (p y) y = true) ∧ (∀ q, q < 10 → ((∃ y, y < 10 ∧ W.testBit y = false ∧ p y = q) ↔ (q = x ∨ ∃ y, y < 10 ∧ W.testBit y = false ∧ o y = q))) ∧ (∀ y z, y < 10 → z < 10 → W.testBit y = false → W.testBit z = false → p y < 10 → p y = p z → y = z) ∧ ∀ V : Nat → Prop, (∀ v, v < 10 → V v → W.testBit v = false → o v < 10 ∧ ∀ y, y < 10 → al (o v) y = true → V y ∨ W.testBit y = true) → (∀ v, v < 10 → V v → p v = o v) ∧ (∃ y, y < 10 ∧ al x y = true ∧ ¬ V y ∧ W.testBit y = false) ∧ ∃ r, r < 10 ∧ ¬ o r < 10 ∧ p r < 10 ∧ ∀ y, y < 10 → y ≠ r → (p y < 10 ↔ o y < 10)
def FFail (al : Nat → Nat → Bool) (x W U : Nat) (o : Nat → Nat) : Prop := (∀ y, y < 10 → U.testBit y = true → W.testBit y = false → o y < 10 ∧ ∀ z, z < 10 → al (o y) z = true → U.testBit z = true) ∧ ∀ y, y < 10 → al x y = true → U.testBit y = true
def Sub (W U : Nat) : Prop := ∀ y, W.testBit y = true → U.testBit y = true
def Inj (o : Nat → Nat) : Prop := ∀ y z, y < 10 → z < 10 → o y < 10 → o y = o z → y = z
theorem tb_n {W y : Nat} : ¬ W.testBit y = true ↔ W.testBit y = false := by
  cases W.testBit y <;> simp
theorem fs_none {al : Nat → Nat → Bool} {x W U k : Nat} {o : Nat → Nat} (hk : k < 10) (hW : Sub W U) (ha : al x k = true) (hv : U.testBit k = false) (hx : x < 10) (hok : ¬ o k < 10) (inj : Inj o) (hxo : ∀ y, y < 10 → o y = x → W.testBit y = true) (val : ∀ y, y < 10 → o y < 10 → al (o y) y = true) : FSucc al x W o (upN o k x) := by
  have wk : W.testBit k = false := by
    cases h : W.testBit k with
    | false => rfl
    | true => rw [hW k h] at hv; cases hv
  refine ⟨fun y hy h => ?_, fun y hy h h2 => ?_, fun q hq => ⟨fun h => ?_, fun h => ?_⟩, fun y z hy hz h1 h2 h3 h4 => ?_, fun V hV => ⟨fun v hv2 h => ?_, ⟨k, hk, ha, fun h => hok (hV k hk h wk).1, wk⟩, k, hk, hok, by rw [upN_eq]; exact hx, fun y _ e => by rw [upN_ne _ _ e]⟩⟩
  · rw [upN_ne _ _ (fun e => by subst e; rw [wk] at h; cases h)]
  · by_cases e : y = k
    · subst e; rw [upN_eq]; exact ha
    · rw [upN_ne _ _ e] at h2 ⊢; exact val y hy h2
  · obtain ⟨y, hy, h1, h2⟩ := h
    by_cases e : y = k
    · subst e; rw [upN_eq] at h2; exact Or.inl h2.symm
    · rw [upN_ne _ _ e] at h2; exact Or.inr ⟨y, hy, h1, h2⟩
  · rcases h with rfl | ⟨y, hy, h1, h2⟩
    · exact ⟨k, hk, wk, upN_eq _ _ _⟩
    · exact ⟨y, hy, h1, by rw [upN_ne _ _ (fun e => hok (by rw [← e, h2]; exact hq))]; exact h2⟩
  · by_cases e1 : y = k
    · by_cases e2 : z = k
      · rw [e1, e2]
      · rw [e1, upN_eq, upN_ne _ _ e2] at h4
        rw [hxo z hz h4.symm] at h2; cases h2
    · by_cases e2 : z = k
      · rw [e2, upN_eq, upN_ne _ _ e1] at h4
        rw [hxo y hy h4] at h1; cases h1
      · rw [upN_ne _ _ e1] at h3 h4
        rw [upN_ne _ _ e2] at h4
        exact inj y z hy hz h3 h4
  · rw [upN_ne _ _ (fun e => by subst e; exact hok (hV v hv2 h wk).1)]
theorem fs_rec {al : Nat → Nat → Bool} {x W U k : Nat} {o p : Nat → Nat} (hk : k < 10) (hW : Sub W U) (ha : al x k = true) (hv : U.testBit k = false) (hx : x < 10) (hok : o k < 10) (inj : Inj o) (hxo : ∀ y, y < 10 → o y = x → W.testBit y = true) (val : ∀ y, y < 10 → o y < 10 → al (o y) y = true) (h : FSucc al (o k) (U ||| 2 ^ k) o p) : FSucc al x W o (upN p k x) := by
  obtain ⟨g1, g2, g3, g4, g5⟩ := h
  have wk : W.testBit k = false := by
    cases h : W.testBit k with
    | false => rfl
    | true => rw [hW k h] at hv; cases hv
  have uk : (U ||| 2 ^ k).testBit k = true := by rw [tb_or2, decide_eq_true (rfl : k = k), Bool.or_true]
  have wu : ∀ y, W.testBit y = true → (U ||| 2 ^ k).testBit y = true := fun y h => by rw [tb_or2, hW y h]; rfl
  have nu : ∀ y, (U ||| 2 ^ k).testBit y = false → W.testBit y = false ∧ y ≠ k := fun y h => ⟨(by
    cases h2 : W.testBit y with
    | false => rfl
    | true => exact absurd ((wu y h2).symm.trans h) (by decide)), (fun e => by subst e; exact absurd (uk.symm.trans h) (by decide))⟩
  have ou : ∀ y, y < 10 → (U ||| 2 ^ k).testBit y = true → p y = o y := g1
  refine ⟨fun y hy h => ?_, fun y hy h h2 => ?_, fun q hq => ⟨fun h => ?_, fun h => ?_⟩, fun y z hy hz h1 h2 h3 h4 => ?_, fun V hV => ?_⟩
  · rw [upN_ne _ _ (fun e => by subst e; rw [wk] at h; cases h)]; exact g1 y hy (wu y h)
  · by_cases e : y = k
    · subst e; rw [upN_eq]; exact ha
    · rw [upN_ne _ _ e] at h2 ⊢
      cases hu : (U ||| 2 ^ k).testBit y with
      | true => rw [ou y hy hu] at h2 ⊢; exact val y hy h2
      | false => exact g2 y hy hu h2
  · obtain ⟨y, hy, h1, h2⟩ := h
    by_cases e : y = k
    · subst e; rw [upN_eq] at h2; exact Or.inl h2.symm
    · rw [upN_ne _ _ e] at h2
      cases hu : (U ||| 2 ^ k).testBit y with
      | true => exact Or.inr ⟨y, hy, h1, by rw [← ou y hy hu]; exact h2⟩
      | false =>
        rcases (g3 q hq).mp ⟨y, hy, hu, h2⟩ with e2 | ⟨z, hz, z1, z2⟩
        · exact Or.inr ⟨k, hk, wk, e2.symm⟩
        · exact Or.inr ⟨z, hz, (nu z z1).1, z2⟩
  · rcases h with rfl | ⟨y, hy, h1, h2⟩
    · exact ⟨k, hk, wk, upN_eq _ _ _⟩
    · by_cases e : y = k
      · obtain ⟨z, hz, z1, z2⟩ := (g3 q hq).mpr (Or.inl (by rw [← e]; exact h2.symm))
        exact ⟨z, hz, (nu z z1).1, by rw [upN_ne _ _ (nu z z1).2]; exact z2⟩
      · cases hu : (U ||| 2 ^ k).testBit y with
        | true => exact ⟨y, hy, h1, by rw [upN_ne _ _ e, ou y hy hu]; exact h2⟩
        | false =>
          obtain ⟨z, hz, z1, z2⟩ := (g3 q hq).mpr (Or.inr ⟨y, hy, hu, h2⟩)
          exact ⟨z, hz, (nu z z1).1, by rw [upN_ne _ _ (nu z z1).2]; exact z2⟩
  · -- one owner, one place
    have noX : ∀ z, z < 10 → z ≠ k → W.testBit z = false → p z = x → False := fun z hz nk hw hp => by
      cases hu : (U ||| 2 ^ k).testBit z with
      | true =>
        rw [ou z hz hu] at hp
        rw [hxo z hz hp] at hw; cases hw
      | false =>
        rcases (g3 x hx).mp ⟨z, hz, hu, hp⟩ with e | ⟨v, hv2, v1, v2⟩
        · rw [hxo k hk e.symm] at wk; cases wk
        · have q := hxo v hv2 v2
          rw [(nu v v1).1] at q; cases q
    have mixed : ∀ y z, y < 10 → z < 10 → y ≠ k → (U ||| 2 ^ k).testBit y = true → (U ||| 2 ^ k).testBit z = false → o y < 10 → o y = p z → False := fun y z hy hz nk hu1 hu2 ho he => by
      rcases (g3 (o y) ho).mp ⟨z, hz, hu2, he.symm⟩ with e | ⟨v, hv2, v1, v2⟩
      · exact nk (inj y k hy hk ho e)
      · have e := inj y v hy hv2 ho v2.symm
        rw [e, v1] at hu1; cases hu1
    by_cases e1 : y = k
    · by_cases e2 : z = k
      · rw [e1, e2]
      · rw [e1, upN_eq, upN_ne _ _ e2] at h4
        exact (noX z hz e2 h2 h4.symm).elim
    · by_cases e2 : z = k
      · rw [e2, upN_eq, upN_ne _ _ e1] at h4
        exact (noX y hy e1 h1 h4).elim
      · rw [upN_ne _ _ e1] at h3 h4
        rw [upN_ne _ _ e2] at h4
        cases u1 : (U ||| 2 ^ k).testBit y with
        | true =>
          rw [ou y hy u1] at h3 h4
          cases u2 : (U ||| 2 ^ k).testBit z with
          | true => rw [ou z hz u2] at h4; exact inj y z hy hz h3 h4
          | false => exact (mixed y z hy hz e1 u1 u2 h3 h4).elim
        | false =>
          cases u2 : (U ||| 2 ^ k).testBit z with
          | true =>
            rw [ou z hz u2] at h4
            exact (mixed z y hz hy e2 u2 u1 (by rw [← h4]; exact h3) h4.symm).elim
          | false => exact g4 y z hy hz u1 u2 h3 h4
  · have hV2 : ∀ v, v < 10 → V v → (U ||| 2 ^ k).testBit v = false → o v < 10 ∧ ∀ y, y < 10 → al (o v) y = true → V y ∨ (U ||| 2 ^ k).testBit y = true := fun v hv2 h1 h2 => by
      obtain ⟨q1, q2⟩ := hV v hv2 h1 (nu v h2).1
      exact ⟨q1, fun y hy h => (q2 y hy h).imp id (wu y)⟩
    obtain ⟨q1, ⟨y, hy, y1, y2, y3⟩, r, hr, r1, r2, r3⟩ := g5 V hV2
    have nrk : k ≠ r := fun e => r1 (by rw [← e]; exact hok)
    have kV : ¬ V k := fun h => by
      rcases (hV k hk h wk).2 y hy y1 with r | r
      · exact y2 r
      · rw [wu y r] at y3; cases y3
    exact ⟨fun v hv2 h => by rw [upN_ne _ _ (fun e => kV (by rw [← e]; exact h))]; exact q1 v hv2 h, ⟨k, hk, ha, kV, wk⟩, r, hr, r1, by rw [upN_ne _ _ (Ne.symm nrk)]; exact r2, fun y hy e => by
      by_cases e2 : y = k
      · subst e2; rw [upN_eq]; exact ⟨fun _ => hok, fun _ => hx⟩
      · rw [upN_ne _ _ e2]; exact r3 y hy e⟩
theorem finds_ok {r0 t : Nat} {am : Nat → Nat} {I0 : MI} (ht : t ≤ 10) (hA : ∀ x, x < t → I0 (r0 + 1) x = nn (am x)) : ∀ (n d x W : Nat) (o : Nat → Nat) (I1 : MI), n + d = 14 → d ≤ cntN (fun y => W.testBit y) 10 → x < t → (∀ y, y < 10 → o y < 10 → o y < t) → W < 1024 → MS r0 I0 W o I1 → Inj o → (∀ y, y < 10 → o y < 10 → (am (o y)).testBit y = true) → (∀ y, y < 10 → o y = x → W.testBit y = true) → Ok (G_Matching_finds n r0 (nn x) (nn d)) I1 fun v I2 => ∃ U p, MS r0 I0 U p I2 ∧ U < 1024 ∧ Sub W U ∧ ((v = 0 ∧ p = o ∧ FFail (fun l j => (am l).testBit j) x W U o) ∨ (v = 1 ∧ FSucc (fun l j => (am l).testBit j) x W o p)) := by
  intro n
  induction n with
  | zero =>
    intro d x W o I1 hn hd
    have q := (cntF_N (fun y => W.testBit y) 10).2
    exact fun _ => absurd hd (by omega)
  | succ n ih =>
    intro d x W o I1 hn hd hxt bd hW hM inj val hxo
    have hx : x < 10 := by omega
    have c10 := (cntF_N (fun y => W.testBit y) 10).2
    have g1 : ¬ (10 : Int32) < nn d := fun q => by have := (nn_lt (j := 10) (by omega) (by omega)).mp q; omega
    have qs := rng_in (a := 0) (b := 9) (k := x) (by decide) (Nat.zero_le x) (by omega)
    have wA : F_A_within (nn x) 0 9 = rt 1 := wi_in qs.1 qs.2
    have ix : inR (nn x) 10 = true := inR_nn hx (by omega)
    have tx : (nn x).toNatClampNeg = x := nn_nat (by omega)
    show Ok (K_Matching_finds_0 (K_Matching_comesFree_0 (G_Matching_finds n)) r0 (nn x) (nn d)) I1 _
    unfold K_Matching_finds_0 K_Matching_finds_20
    simp (decide := true) only [ok_ite, if_neg g1, ok_bn, wA, ok_rt, if_false]
    refine ok_lp (fun k y I2 => y = nn k ∧ ∃ U, MS r0 I0 U o I2 ∧ U < 1024 ∧ Sub W U ∧ (∀ j, j < k → (am x).testBit j = true → U.testBit j = true) ∧ ∀ y, y < 10 → U.testBit y = true → W.testBit y = false → o y < 10 ∧ ∀ z, z < 10 → (am (o y)).testBit z = true → U.testBit z = true) 10 (fun k y I2 hk hP => ?_) (fun y I2 hP => ?_) FU 0 I1 (by rw [FU_eq]; omega) ⟨rfl, W, hM, hW, fun _ h => h, fun j hj => absurd hj (by omega), fun y hy h1 h2 => by rw [h1] at h2; cases h2⟩
    · obtain ⟨rfl, U, hU, hU2, hS, hj, hcl⟩ := hP
      have gk : nn k < 10 := (nn_lt (k := 10) (by omega) (by omega)).mpr hk
      have e1 : I2 (r0 + 1) x = nn (am x) := by rw [hU.1 (r0 + 1) (by omega) (by omega)]; exact hA x hxt
      have e2 : I2 r0 2 = nn U := hU.2.1
      have ik : inR (nn k) 10 = true := inR_nn hk (by omega)
      have tk : (nn k).toNatClampNeg = k := nn_nat (by omega)
      have pk : 2 ^ k < 1024 := by
        have : (2 : Nat) ^ k < 2 ^ 10 := Nat.pow_lt_pow_right (by decide) hk
        exact this
      have eo : nn U ||| ((1 : Int32) <<< (nn k &&& 31)) = nn (U ||| 2 ^ k) := by rw [shl_nn (by omega), or_nn (by omega) (by omega)]
      have U1b : U ||| 2 ^ k < 1024 := Nat.or_lt_two_pow (n := 10) hU2 pk
      have hS1 : Sub W (U ||| 2 ^ k) := fun y h => by rw [tb_or2, hS y h]; rfl
      have e3 : ∀ g, (bup I2 r0 g) (r0 + 2) k = own (o k) := fun g => by rw [bup_ne _ _ (by omega)]; exact hU.2.2 k hk
      unfold B_Matching_finds_20 K_Matching_comesFree_0
      by_cases hv : (am x).testBit k = true ∧ U.testBit k = false
      · have nz : ¬ (nn (am x) &&& (nn U ^^^ (-1 : Int32))) &&& ((1 : Int32) <<< (nn k &&& 31)) = 0 := fun q => (vis hk).mp q hv
        have M1 := ms_vis (W1 := U ||| 2 ^ k) hU
        by_cases hok : o k < 10
        · have ow : own (o k) = nn (o k) := by unfold own; rw [if_pos hok]
          have nm : ¬ nn (o k) = -1 := fun q => by
            have h1 : nn (o k) < 0 := by rw [q]; decide
            exact nn_neg (by omega) h1
          have cnt1 : d + 1 ≤ cntN (fun y => (U ||| 2 ^ k).testBit y) 10 := by
            have q := cn_lt (c := fun y => W.testBit y) (d := fun y => (U ||| 2 ^ k).testBit y) hk (fun y _ h => hS1 y h) (by
              cases h : W.testBit k with
              | false => rfl
              | true => rw [hS k h] at hv; exact absurd hv.2 (by decide)) (by
              show (U ||| 2 ^ k).testBit k = true
              rw [tb_or2, decide_eq_true (rfl : k = k), Bool.or_true])
            omega
          have rec_ := ih (d + 1) (o k) (U ||| 2 ^ k) o _ (by omega) cnt1 (bd k hk hok) bd U1b M1 inj val (fun y hy h => by
            have e := inj k y hk hy hok h.symm
            rw [← e, tb_or2, decide_eq_true (rfl : k = k), Bool.or_true])
          obtain ⟨v, I3, q1, U3, p, m3, u3, s3, q2⟩ := rec_
          simp only [ok_bn, ok_ite, if_pos gk, ok_ld, ok_rd, ok_wr, ix, tx, e1, e2, if_neg nz, eo, ik, tk, e3, ow, if_neg nm, nn_s, ok_eq q1, true_and]
          rcases q2 with ⟨rfl, rfl, f1, f2⟩ | ⟨rfl, hs⟩
          · simp (decide := true) only [if_true, if_false, ok_bn, ok_gdZ, ok_rt, true_or, or_true, true_and]
            have hs13 : Sub U U3 := fun y h => s3 y (by rw [tb_or2, h]; rfl)
            refine ⟨U3, m3, u3, fun y h => hs13 y (hS y h), fun j hjk h => ?_, fun y hy h1 h2 => ?_⟩
            · by_cases e : j = k
              · subst e; exact s3 j (by rw [tb_or2, decide_eq_true (rfl : j = j), Bool.or_true])
              · exact hs13 j (hj j (by omega) h)
            · cases hu : (U ||| 2 ^ k).testBit y with
              | false => exact f1 y hy h1 hu
              | true =>
                by_cases e : y = k
                · subst e; exact ⟨hok, fun z hz h => f2 z hz h⟩
                · have hu2 : U.testBit y = true := by
                    rw [tb_or2, decide_eq_false (show ¬ k = y from fun q => e q.symm), Bool.or_false] at hu
                    exact hu
                  obtain ⟨r1, r2⟩ := hcl y hy hu2 h2
                  exact ⟨r1, fun z hz h => hs13 z (r2 z hz h)⟩
          · simp (decide := true) only [if_true, if_false, ok_bn, ok_ite, ok_sr, ik, tk, ok_gdZ, ok_rt, true_or, or_true, true_and]
            exact ⟨U3, upN p k x, ms_set hx m3, u3, fun y h => s3 y (hS1 y h), Or.inr (fs_rec hk hS hv.1 hv.2 hx hok inj hxo val hs)⟩
        · have ow : own (o k) = -1 := by unfold own; rw [if_neg hok]
          simp (decide := true) only [ok_bn, ok_ite, if_pos gk, ok_ld, ok_rd, ok_wr, ok_sr, ix, tx, e1, e2, if_neg nz, eo, ik, tk, e3, ow, if_true, ok_gdZ, ok_rt, or_true, true_and]
          exact ⟨U ||| 2 ^ k, upN o k x, ms_set hx M1, U1b, hS1, Or.inr (fs_none hk hS hv.1 hv.2 hx hok inj hxo val)⟩
      · have zz : (nn (am x) &&& (nn U ^^^ (-1 : Int32))) &&& ((1 : Int32) <<< (nn k &&& 31)) = 0 := (vis hk).mpr hv
        simp only [ok_bn, ok_ite, if_pos gk, ok_ld, ok_rd, ix, tx, e1, e2, if_pos zz, ok_rt, nn_s, true_and]
        refine ⟨U, hU, hU2, hS, fun j hjk h => ?_, hcl⟩
        by_cases e : j = k
        · subst e
          cases hu : U.testBit j with
          | true => rfl
          | false => exact absurd ⟨h, hu⟩ hv
        · exact hj j (by omega) h
    · obtain ⟨rfl, U, hU, hU2, hS, hj, hcl⟩ := hP
      have gk : ¬ nn 10 < 10 := by decide
      unfold B_Matching_finds_20
      simp (decide := true) only [ok_bn, ok_ite, if_neg gk, ok_gdZ, ok_rt, true_or, true_and]
      exact ⟨U, o, hU, hU2, hS, Or.inl ⟨rfl, hcl, fun y hy h => hj y hy h⟩⟩
end KU93
