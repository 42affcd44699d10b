/-! game, put together -/
section SC16
def fnP (a b : Nat) : Option (Nat × Nat) := fndF (fun k => (mvN a b k).map fun f => (k, f)) (a + b) 1
theorem fnd_map {α β γ : Type} (g : Nat → Option α) (h : Nat → α → β) (h2 : β → γ) : ∀ (m k : Nat), fndF (fun k => (g k).map fun f => h2 (h k f)) m k = (fndF (fun k => (g k).map (h k)) m k).map h2 := by
  intro m
  induction m with
  | zero => intro k; rfl
  | succ m ih =>
    intro k
    unfold fndF
    cases g k with
    | some v => rfl
    | none => exact ih (k + 1)
theorem fnd_spec {α : Type} {g : Nat → Option α} : ∀ (m k : Nat) (v : α), fndF g m k = some v → ∃ j, k ≤ j ∧ j < k + m ∧ g j = some v := by
  intro m
  induction m with
  | zero => intro k v h; cases h
  | succ m ih =>
    intro k v h
    unfold fndF at h
    cases hk : g k with
    | some w => rw [hk] at h; cases h; exact ⟨k, Nat.le_refl _, by omega, hk⟩
    | none =>
      rw [hk] at h
      obtain ⟨j, j1, j2, j3⟩ := ih (k + 1) v h
      exact ⟨j, by omega, by omega, j3⟩
theorem mv_spec {a b k f : Nat} (h : mvN a b k = some f) : f ≤ k ∧ f ≤ a ∧ k - f ≤ b := by
  unfold mvN at h
  split at h
  · rename_i c; cases h; omega
  · split at h
    · rename_i c; cases h; omega
    · split at h
      · rename_i c; cases h; omega
      · cases h
theorem fnP_spec {a b k f : Nat} (h : fnP a b = some (k, f)) : f ≤ k ∧ f ≤ a ∧ k - f ≤ b := by
  obtain ⟨j, -, -, e⟩ := fnd_spec _ _ _ h
  cases hm : mvN a b j with
  | none => rw [hm] at e; cases e
  | some g => rw [hm] at e; cases e; exact mv_spec hm
theorem fnA (a b : Nat) : fndF (gaA a b) (a + b) 1 = (fnP a b).map fun p => .inl (nn p.1, nn p.2) := fnd_map (mvN a b) (fun k f => (k, f)) (fun p => (.inl (nn p.1, nn p.2) : (Int32 × Int32) ⊕ Int32)) (a + b) 1
theorem fnR (a b : Nat) : fndF (gaR a b) (a + b) 1 = (fnP a b).map fun p => nn (100 * p.2 + (p.1 - p.2)) := fnd_map (mvN a b) (fun k f => (k, f)) (fun p => nn (100 * p.2 + (p.1 - p.2))) (a + b) 1
theorem fn_none {a b : Nat} (ha : a ≤ 40) (hb : b ≤ 40) : fnP a b = none ↔ lsN a = b := by
  have h := List.all_eq_true.mp (List.all_eq_true.mp game_all a (List.mem_range.mpr (by omega))) b (List.mem_range.mpr (by omega))
  have e2 := fnd_map (mvN a b) (fun k f => (k, f)) (fun p => p.2) (a + b) 1
  have e3 : (fun k => (mvN a b k).map fun f => f) = mvN a b := by
    funext k
    cases mvN a b k <;> rfl
  have e4 : fndF (mvN a b) (a + b) 1 = (fnP a b).map fun p => p.2 := by
    refine Eq.trans ?_ e2
    show _ = fndF (fun k => (mvN a b k).map fun f => f) (a + b) 1
    rw [e3]
  rw [e4] at h
  have h2 := beq_iff_eq.mp h
  cases hp : fnP a b with
  | none =>
    rw [hp] at h2
    have : decide (lsN a = b) = true := h2.symm
    exact ⟨fun _ => of_decide_eq_true this, fun _ => rfl⟩
  | some p =>
    rw [hp] at h2
    have : decide (lsN a = b) = false := h2.symm
    exact ⟨fun z => (by cases z), fun z => absurd z (of_decide_eq_false this)⟩
def rowOK (T : Nat → Int32) (x b k : Nat) : Prop := ∀ x2 y2, ((x2 < x ∧ y2 ≤ b) ∨ (x2 = x ∧ y2 < k)) → T (41 * x2 + y2) = wnN x2 y2
theorem gt_val {J : MI} {x y : Nat} (ht : tabOK J x y) (hx : x ≤ 40) (hy : y ≤ 40) : F_R_goodTaking (nn x) (nn y) J = some (((fnP x y).map fun p => nn (100 * p.2 + (p.1 - p.2))).getD (-1), J) := by
  rw [take_R ht hx hy, fnR]
theorem gt_none {x y : Nat} (hx : x ≤ 40) (hy : y ≤ 40) : ((fnP x y).map fun p => nn (100 * p.2 + (p.1 - p.2))).getD (-1) = -1 ↔ lsN x = y := by
  rw [← fn_none hx hy]
  cases hp : fnP x y with
  | none => exact ⟨fun _ => rfl, fun _ => rfl⟩
  | some p =>
    obtain ⟨k, f⟩ := p
    have s := fnP_spec hp
    constructor
    · intro h; exact absurd h (nn_m1 (by show 100 * f + (k - f) < 2 ^ 31; omega))
    · intro h; cases h
theorem row_R {J : MI} {T : Nat → Int32} {a b x : Nat} {w : Int32} (ha : a ≤ 40) (hb : b ≤ 40) (hx : x ≤ a) (hT : rowOK T x b 0) : Ok (lp (B_R_game_51 (nn a) (nn b) w (nn x)) FU 0) (bup J 252 T) fun _ K => ∃ T2, K = bup J 252 T2 ∧ rowOK T2 (x + 1) b 0 := by
  refine ok_lp (fun k y K => y = nn k ∧ ∃ T2, K = bup J 252 T2 ∧ rowOK T2 x b k) (b + 1) (fun k y K hk hi => ?_) (fun y K hi => ?_) FU 0 _ (by rw [FU_eq]; omega) ⟨rfl, T, rfl, hT⟩
  · obtain ⟨rfl, T2, rfl, h2⟩ := hi
    have tb : tabOK (bup J 252 T2) x k := by
      intro x2 y2 q1 q2 q3
      rw [bup_eq]
      refine h2 x2 y2 ?_
      by_cases e : x2 = x
      · exact Or.inr ⟨e, by omega⟩
      · exact Or.inl ⟨by omega, by omega⟩
    have v := gt_val tb (by omega) (by omega)
    have nv := gt_none (x := x) (y := k) (by omega) (by omega)
    have l1 : ¬ nn b < nn k := by rw [nn_lt (by omega) (by omega)]; omega
    have e41 : (41 : Int32) * nn x + nn k = nn (41 * x + k) := by rw [show (41 : Int32) = nn 41 from rfl, nn_mul, nn_add]
    have i41 : inR (nn (41 * x + k)) 1681 = true := inR_nn (by omega) (by omega)
    have t41 : (nn (41 * x + k)).toNatClampNeg = 41 * x + k := nn_nat (by omega)
    have bb : ∀ v, bup (bup J 252 T2) 252 (upd T2 (41 * x + k) v) = bup J 252 (upd T2 (41 * x + k) v) := by
      intro v
      funext c
      by_cases hc : c = 252
      · subst hc; rw [bup_eq, bup_eq]
      · rw [bup_ne _ _ hc, bup_ne _ _ hc, bup_ne _ _ hc]
    have fin : rowOK (upd T2 (41 * x + k) (wnN x k)) x b (k + 1) := by
      intro x2 y2 q
      by_cases e : 41 * x2 + y2 = 41 * x + k
      · have : x2 = x ∧ y2 = k := by omega
        rw [this.1, this.2, upd_eq]
      · rw [upd_ne _ _ e]
        refine h2 x2 y2 ?_
        rcases q with q | q
        · exact Or.inl q
        · refine Or.inr ⟨q.1, ?_⟩
          have : y2 ≠ k := fun z => e (by rw [q.1, z])
          omega
    unfold B_R_game_51
    by_cases hz : lsN x = k
    · have w0 : wnN x k = 0 := if_pos hz
      rw [w0] at fin
      simp (decide := true) only [ok_ite, if_neg l1, ok_bn, ok_eq v, if_pos (nv.mpr hz), ok_sr, e41, i41, t41, ok_rt, bup_eq, true_and, nn_s]
      exact ⟨_, bb 0, fin⟩
    · have w1 : wnN x k = 1 := if_neg hz
      rw [w1] at fin
      simp (decide := true) only [ok_ite, if_neg l1, ok_bn, ok_eq v, if_neg (fun z => hz (nv.mp z)), ok_sr, e41, i41, t41, ok_rt, bup_eq, true_and, nn_s]
      exact ⟨_, bb 1, fin⟩
  · obtain ⟨rfl, T2, rfl, h2⟩ := hi
    have l1 : nn b < nn (b + 1) := (nn_lt (by omega) (by omega)).mpr (by omega)
    unfold B_R_game_51
    simp only [ok_ite, if_pos l1, ok_rt]
    refine ⟨T2, rfl, fun x2 y2 q => h2 x2 y2 ?_⟩
    rcases q with q | q
    · by_cases e : x2 = x
      · exact Or.inr ⟨e, by omega⟩
      · exact Or.inl ⟨by omega, q.2⟩
    · omega
theorem tab_R {J : MI} {a b : Nat} {w : Int32} (ha : a ≤ 40) (hb : b ≤ 40) : Ok (lp (B_R_game_42 (nn a) (nn b) w) FU 0) J fun _ K => ∃ T2, K = bup J 252 T2 ∧ rowOK T2 (a + 1) b 0 := by
  refine ok_lp (fun k y K => y = nn k ∧ ∃ T2, K = bup J 252 T2 ∧ rowOK T2 k b 0) (a + 1) (fun k y K hk hi => ?_) (fun y K hi => ?_) FU 0 _ (by rw [FU_eq]; omega) ⟨rfl, J 252, by
    funext c
    by_cases hc : c = 252
    · subst hc; rw [bup_eq]
    · rw [bup_ne _ _ hc], fun x2 y2 q => by omega⟩
  · obtain ⟨rfl, T2, rfl, h2⟩ := hi
    have l1 : ¬ nn a < nn k := by rw [nn_lt (by omega) (by omega)]; omega
    unfold B_R_game_42 K_R_game_51 K_R_game_93
    simp only [ok_ite, if_neg l1, ok_bn]
    refine ok_mono (row_R (J := J) (w := w) ha hb (show k ≤ a by omega) h2) ?_
    rintro u K ⟨T3, rfl, h3⟩
    simp only [ok_rt, nn_s]
    exact ⟨trivial, T3, rfl, h3⟩
  · obtain ⟨rfl, T2, rfl, h2⟩ := hi
    have l1 : nn a < nn (a + 1) := (nn_lt (by omega) (by omega)).mpr (by omega)
    unfold B_R_game_42
    simp only [ok_ite, if_pos l1, ok_rt]
    exact ⟨T2, rfl, h2⟩
theorem c_game (x y z : Int32) : Call (F_A_game x y z) (F_R_game x y z) := by
  refine call_of fun I J hr => ?_
  obtain ⟨-, -, -, -, kc⟩ := id hr
  have hl : ∀ k, k < 41 → I 206 k = nn (lsN k) := kc.2.2.2.1
  have g33 : ∀ a b c, K_A_game_33 a b c = rt (-1) := fun a b c => by
    unfold K_A_game_33
    rw [if_pos rfl]
  unfold F_A_game F_R_game K_R_game_42 F_Riddles_goodTake K_Riddles_goodTake_3
  rcases rng (v := x) 0 40 (by decide) (by decide) with ⟨a, -, ha, rfl⟩ | out
  · have q := rng_in (a := 0) (b := 40) (by decide) (Nat.zero_le a) ha
    have wA : F_A_within (nn a) 0 40 = rt 1 := wi_in q.1 q.2
    have wR : F_R_isIn (nn a) 0 40 = rt 1 := ri_in q.1 q.2
    rcases rng (v := y) 0 40 (by decide) (by decide) with ⟨b, -, hb, rfl⟩ | out2
    · have q2 := rng_in (a := 0) (b := 40) (by decide) (Nat.zero_le b) hb
      have wA2 : F_A_within (nn b) 0 40 = rt 1 := wi_in q2.1 q2.2
      have wR2 : F_R_isIn (nn b) 0 40 = rt 1 := ri_in q2.1 q2.2
      rcases rng (v := z) 0 1 (by decide) (by decide) with ⟨c, -, c2, rfl⟩ | out3
      · have q3 := rng_in (a := 0) (b := 1) (by decide) (Nat.zero_le c) c2
        have wA3 : F_A_within (nn c) 0 1 = rt 1 := wi_in q3.1 q3.2
        have wR3 : F_R_isIn (nn c) 0 1 = rt 1 := ri_in q3.1 q3.2
        have tA : ∀ w, lp (B_Riddles_goodTake_3 (nn a) (nn b) w) FU 1 I = _ := fun w => take_A (w := w) hl ha hb
        rw [fnA] at tA
        have fin : ∀ T, rowOK T (a + 1) b 0 → tabOK (bup (bup J 207 (upd (J 207) 0 0)) 252 T) a b := by
          intro T hT x2 y2 h1 h2 _
          rw [bup_eq]
          exact hT x2 y2 (Or.inl ⟨by omega, h2⟩)
        have rl2 : ∀ T, Rl I (bup (bup J 207 (upd (J 207) 0 0)) 252 T) := fun T => rl_none [] [252] [0] hr (ui_refl _ _) (uj_bup (uj_fld (uj_refl _ _ _) rfl) rfl (by decide)) (ut_refl _) rfl rfl rfl rfl
        have R : ∀ v, (∀ T, rowOK T (a + 1) b 0 → Ok (K_R_game_99 (nn a) (nn b) (nn c)) (bup (bup J 207 (upd (J 207) 0 0)) 252 T) fun u J1 => u = v ∧ Rl I J1) → Ok (lp (B_R_game_42 (nn a) (nn b) (nn c)) FU 0) (bup J 207 (upd (J 207) 0 0)) fun _ K => Ok (K_R_game_99 (nn a) (nn b) (nn c)) K fun u J1 => u = v ∧ Rl I J1 := by
          intro v hv
          refine ok_mono (tab_R (J := bup J 207 (upd (J 207) 0 0)) (w := nn c) ha hb) ?_
          rintro u K ⟨T, rfl, hT⟩
          exact hv T hT
        have dh : ∀ {β : Type} (m : M β), dvI 100 m = m := fun m => dvI_ne m (by decide)
        cases hp : fnP a b with
        | none =>
          have tA := fun w => tA w
          rw [hp] at tA
          have g : ∀ T, rowOK T (a + 1) b 0 → Ok (K_R_game_99 (nn a) (nn b) (nn c)) (bup (bup J 207 (upd (J 207) 0 0)) 252 T) fun u J1 => u = -1 ∧ Rl I J1 := by
            intro T hT
            have v := gt_val (fin T hT) ha hb
            rw [hp] at v
            have v : F_R_goodTaking (nn a) (nn b) (bup (bup J 207 (upd (J 207) 0 0)) 252 T) = some (-1, bup (bup J 207 (upd (J 207) 0 0)) 252 T) := v
            unfold K_R_game_99
            simp only [ok_bn, ok_eq v, ok_ite, if_true, ok_rt, true_and]
            exact rl2 T
          have tA : ∀ w, lp (B_Riddles_goodTake_3 (nn a) (nn b) w) FU 1 I = some (.inr (-1), I) := tA
          match c, c2 with
          | 0, _ =>
            simp (decide := true) only [ok_bn, ok_wr, ok_rt, ok_ite, wA, wR, wA2, wR2, wA3, wR3, ok_eq (tA 0), if_true, if_false]
            exact R (-1) g
          | 1, _ =>
            simp (decide := true) only [ok_bn, ok_wr, ok_rt, ok_ite, wA, wR, wA2, wR2, wA3, wR3, ok_eq (tA 1), if_true, if_false]
            exact R (-1) g
          | c + 2, h => omega
        | some p =>
          obtain ⟨k, f⟩ := p
          have sp := fnP_spec hp
          rw [hp] at tA
          have tA : ∀ w, lp (B_Riddles_goodTake_3 (nn a) (nn b) w) FU 1 I = some (.inl (nn k, nn f), I) := tA
          have v0 : ∀ T, rowOK T (a + 1) b 0 → F_R_goodTaking (nn a) (nn b) (bup (bup J 207 (upd (J 207) 0 0)) 252 T) = some (nn (100 * f + (k - f)), bup (bup J 207 (upd (J 207) 0 0)) 252 T) := by
            intro T hT
            have v := gt_val (fin T hT) ha hb
            rw [hp] at v
            exact v
          have nm : ¬ nn (100 * f + (k - f)) = -1 := nn_m1 (by omega)
          have d1 : nn (100 * f + (k - f)) / 100 = nn f := by
            rw [show (100 : Int32) = nn 100 from rfl, ← Int32.ofNat_div (by omega) (by decide)]
            congr 1
            omega
          match c, c2 with
          | 0, _ =>
            simp (decide := true) only [ok_bn, ok_wr, ok_rt, ok_ite, wA, wR, wA2, wR2, wA3, wR3, ok_eq (tA 0), if_true, if_false]
            unfold K_Riddles_goodTake_89
            simp (decide := true) only [ok_ite, if_true, ok_rt]
            refine R (nn f) fun T hT => ?_
            unfold K_R_game_99
            simp (decide := true) only [ok_bn, ok_eq (v0 T hT), ok_ite, if_neg nm, if_true, dh, d1, ok_rt, true_and]
            exact rl2 T
          | 1, _ =>
            simp (decide := true) only [ok_bn, ok_wr, ok_rt, ok_ite, wA, wR, wA2, wR2, wA3, wR3, ok_eq (tA 1), if_true, if_false]
            unfold K_Riddles_goodTake_89
            simp (decide := true) only [ok_ite, if_false, ok_rt]
            refine R (nn k - nn f) fun T hT => ?_
            unfold K_R_game_99
            simp (decide := true) only [ok_bn, ok_eq (v0 T hT), ok_ite, if_neg nm, if_false, dh, d1, ok_rt]
            refine ⟨?_, rl2 T⟩
            rw [show (100 : Int32) = nn 100 from rfl, nn_mul, nn_sub (by omega), nn_sub (by omega)]
            congr 1
            omega
          | c + 2, h => omega
      · have wA3 : F_A_within z 0 1 = rt 0 := wi_out out3
        have wR3 : F_R_isIn z 0 1 = rt 0 := ri_out out3
        simp (decide := true) only [ok_bn, ok_wr, ok_rt, ok_ite, wA, wR, wA2, wR2, wA3, wR3, g33, if_true, if_false, true_and]
        exact rl_told hr
    · have wA2 : F_A_within y 0 40 = rt 0 := wi_out out2
      have wR2 : F_R_isIn y 0 40 = rt 0 := ri_out out2
      simp (decide := true) only [ok_bn, ok_wr, ok_rt, ok_ite, wA, wR, wA2, wR2, g33, if_true, if_false, true_and]
      exact rl_told hr
  · have wA : F_A_within x 0 40 = rt 0 := wi_out out
    have wR : F_R_isIn x 0 40 = rt 0 := ri_out out
    simp (decide := true) only [ok_bn, ok_wr, ok_rt, ok_ite, wA, wR, g33, if_true, if_false, true_and]
    exact rl_told hr
end SC16
