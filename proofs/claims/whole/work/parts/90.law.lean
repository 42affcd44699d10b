/-! the law over the whole script (printed by wip/tools/gen_law.py) -/
section LAW90
theorem rl_loc {I J I1 J1 : MI} (hr : Rl I J) (hi : ∀ a, a < 207 → I1 a = I a) (hj : ∀ a, 207 ≤ a → J1 a = J a) : Rl I1 J1 := by
  obtain ⟨kb, kt, kp, ki, kc⟩ := hr
  have eD : EqD J J1 := fun a k h => by
    have ha : 207 ≤ a := by
      rcases Nat.lt_or_ge a 207 with q | q
      · have h1 : dm a k = dpos dmL a k := if_neg (by omega)
        obtain ⟨e, q1, q2, -⟩ := dpos_in (l := dmL) (a := a) (k := k) (by omega)
        have hall : ∀ e, e ∈ dmL → 207 ≤ e.1 := by decide
        have := hall e q1
        omega
      · exact q
    rw [hj a ha]
  have j7 : J1 207 = J 207 := hj 207 (by decide)
  refine ⟨q_Stk eD (k_Stk (fun c h1 h2 => hi c (by omega)) kb), ?_, ?_, ?_, ?_⟩
  · unfold bTap at kt ⊢
    rw [hi 93 (by decide), hi 106 (by decide), j7, hj 216 (by decide)]
    exact kt
  · obtain ⟨n, c, a1, a2, a3, a4, a5, a6⟩ := kp
    refine ⟨n, c, a1, a2, by rw [hi 0 (by decide)]; exact a3, by rw [hi 0 (by decide)]; exact a4, by rw [j7]; exact a5, fun r hr => ?_⟩
    obtain ⟨b1, b2, np, na, b3⟩ := a6 r hr
    rw [j7, hj 209 (by decide), hj 211 (by decide), hj 212 (by decide), hj 213 (by decide), hj 214 (by decide)]
    have hm : (n + 6 - c + r) % 6 < 6 := Nat.mod_lt _ (by decide)
    have hh : ∀ q, 124 + 11 * ((n + 6 - c + r) % 6) ≤ q → q < 124 + 11 * ((n + 6 - c + r) % 6) + 11 → I1 q = I q := fun q h1 h2 => hi q (by omega)
    exact ⟨k_rW hh b1, k_rS hh b2, np, na, k_bW hh b3⟩
  · unfold bImg at ki ⊢
    rw [hi 0 (by decide), j7, hj 253 (by decide)]
    exact ⟨ki.1, ki.2.imp id fun q => ⟨q.1, k_Stk (fun c h1 h2 => hi c (by omega)) q.2⟩⟩
  · obtain ⟨a1, a2, a3, a4, a5, a6⟩ := kc
    have tb : ∀ e, e ∈ tabC → e.1 < 207 := by decide
    exact ⟨fun e he => by rw [hi e.1 (tb e he)]; exact a1 e he, by rw [hi 110 (by decide)]; exact a2, by rw [hi 122 (by decide)]; exact a3, by rw [hi 206 (by decide)]; exact a4, by rw [hj 217 (by decide)]; exact a5, by rw [j7]; exact a6⟩
theorem law_two {F G : M Int32} (hF : frA F) (hG : frR G) (hc : Call F G) {I : MI} (hr : Rl I I) : Ok F I fun v I1 => Ok G I1 fun u I2 => u = v ∧ Rl I2 I2 := by
  obtain ⟨v0, I1, J0, e1, -, -⟩ := hc I I hr
  have r1 : Rl I I1 := rl_loc hr (fun _ _ => rfl) (fun a ha => hF I v0 I1 e1 a ha)
  obtain ⟨v, I2, J2, e2, e3, r2⟩ := hc I I1 r1
  rw [e1] at e2
  cases e2
  rw [ok_eq e1, ok_eq e3]
  exact ⟨rfl, rl_loc r2 (fun a ha => hG I1 v0 J2 e3 a ha) (fun _ _ => rfl)⟩
theorem law_one {F G : M Int32} (hF : frA F) (hG : frR G) (hc : Call F G) {I : MI} (hr : Rl I I) {L : Nat} {X : Nat → Int32} {y : Nat} : Ok F I fun v I1 => Ok G I1 fun u I2 => Ok (if v = u then K_L_law_1533 L X (nn y) else bn (gdZ (0 : Int32)) fun _ => rt (.inr (0 : Int32))) I2 fun s I3 => s = .inl (nn (y + 6)) ∧ Rl I3 I3 := by
  refine ok_mono (law_two hF hG hc hr) fun v I1 q => ok_mono q fun u I2 q2 => ?_
  obtain ⟨rfl, r⟩ := q2
  rw [if_pos rfl]
  unfold K_L_law_1533
  rw [ok_rt]
  exact ⟨congrArg Sum.inl (nn_add y 6), r⟩
theorem l_state {I : MI} (hr : Rl I I) {L : Nat} {X : Nat → Int32} {y : Nat} (h : ∀ j, j < 6 → inR (nn (y + j)) L = true) : Ok (K_L_law_212 L X (nn y)) I fun s I3 => s = .inl (nn (y + 6)) ∧ Rl I3 I3 := by
  have e1 : nn y + (1 : Int32) = nn (y + 1) := nn_add y 1
  have i1 := h 1 (by decide)
  unfold K_L_law_212
  simp only [ok_bn, ok_gd, e1, i1, true_and]
  exact law_one fr_F_A_state fr_F_R_state (c_state _) hr
theorem l_person {I : MI} (hr : Rl I I) {L : Nat} {X : Nat → Int32} {y : Nat} (h : ∀ j, j < 6 → inR (nn (y + j)) L = true) : Ok (K_L_law_235 L X (nn y)) I fun s I3 => s = .inl (nn (y + 6)) ∧ Rl I3 I3 := by
  have e1 : nn y + (1 : Int32) = nn (y + 1) := nn_add y 1
  have i1 := h 1 (by decide)
  have e2 : nn y + (2 : Int32) = nn (y + 2) := nn_add y 2
  have i2 := h 2 (by decide)
  unfold K_L_law_235
  simp only [ok_bn, ok_gd, e1, i1, e2, i2, true_and]
  exact law_one fr_F_A_person fr_F_R_person (c_person _ _) hr
theorem l_alias {I : MI} (hr : Rl I I) {L : Nat} {X : Nat → Int32} {y : Nat} (h : ∀ j, j < 6 → inR (nn (y + j)) L = true) : Ok (K_L_law_268 L X (nn y)) I fun s I3 => s = .inl (nn (y + 6)) ∧ Rl I3 I3 := by
  have e1 : nn y + (1 : Int32) = nn (y + 1) := nn_add y 1
  have i1 := h 1 (by decide)
  have e2 : nn y + (2 : Int32) = nn (y + 2) := nn_add y 2
  have i2 := h 2 (by decide)
  have e3 : nn y + (3 : Int32) = nn (y + 3) := nn_add y 3
  have i3 := h 3 (by decide)
  unfold K_L_law_268
  simp only [ok_bn, ok_gd, e1, i1, e2, i2, e3, i3, true_and]
  exact law_one fr_F_A_alias fr_F_R_alias (c_alias _ _ _) hr
theorem l_set {I : MI} (hr : Rl I I) {L : Nat} {X : Nat → Int32} {y : Nat} (h : ∀ j, j < 6 → inR (nn (y + j)) L = true) : Ok (K_L_law_311 L X (nn y)) I fun s I3 => s = .inl (nn (y + 6)) ∧ Rl I3 I3 := by
  have e1 : nn y + (1 : Int32) = nn (y + 1) := nn_add y 1
  have i1 := h 1 (by decide)
  have e2 : nn y + (2 : Int32) = nn (y + 2) := nn_add y 2
  have i2 := h 2 (by decide)
  have e3 : nn y + (3 : Int32) = nn (y + 3) := nn_add y 3
  have i3 := h 3 (by decide)
  unfold K_L_law_311
  simp only [ok_bn, ok_gd, e1, i1, e2, i2, e3, i3, true_and]
  exact law_one fr_F_A_set fr_F_R_set (c_set _ _ _) hr
theorem l_act {I : MI} (hr : Rl I I) {L : Nat} {X : Nat → Int32} {y : Nat} (h : ∀ j, j < 6 → inR (nn (y + j)) L = true) : Ok (K_L_law_354 L X (nn y)) I fun s I3 => s = .inl (nn (y + 6)) ∧ Rl I3 I3 := by
  have e1 : nn y + (1 : Int32) = nn (y + 1) := nn_add y 1
  have i1 := h 1 (by decide)
  have e2 : nn y + (2 : Int32) = nn (y + 2) := nn_add y 2
  have i2 := h 2 (by decide)
  have e3 : nn y + (3 : Int32) = nn (y + 3) := nn_add y 3
  have i3 := h 3 (by decide)
  unfold K_L_law_354
  simp only [ok_bn, ok_gd, e1, i1, e2, i2, e3, i3, true_and]
  exact law_one fr_F_A_act fr_F_R_act (c_act _ _ _) hr
theorem l_hours {I : MI} (hr : Rl I I) {L : Nat} {X : Nat → Int32} {y : Nat} (h : ∀ j, j < 6 → inR (nn (y + j)) L = true) : Ok (K_L_law_397 L X (nn y)) I fun s I3 => s = .inl (nn (y + 6)) ∧ Rl I3 I3 := by
  have e1 : nn y + (1 : Int32) = nn (y + 1) := nn_add y 1
  have i1 := h 1 (by decide)
  unfold K_L_law_397
  simp only [ok_bn, ok_gd, e1, i1, true_and]
  exact law_one fr_F_A_hours fr_F_R_hours (c_hours _) hr
theorem l_feed {I : MI} (hr : Rl I I) {L : Nat} {X : Nat → Int32} {y : Nat} (h : ∀ j, j < 6 → inR (nn (y + j)) L = true) : Ok (K_L_law_420 L X (nn y)) I fun s I3 => s = .inl (nn (y + 6)) ∧ Rl I3 I3 := by
  have e1 : nn y + (1 : Int32) = nn (y + 1) := nn_add y 1
  have i1 := h 1 (by decide)
  have e2 : nn y + (2 : Int32) = nn (y + 2) := nn_add y 2
  have i2 := h 2 (by decide)
  have e3 : nn y + (3 : Int32) = nn (y + 3) := nn_add y 3
  have i3 := h 3 (by decide)
  have e4 : nn y + (4 : Int32) = nn (y + 4) := nn_add y 4
  have i4 := h 4 (by decide)
  have e5 : nn y + (5 : Int32) = nn (y + 5) := nn_add y 5
  have i5 := h 5 (by decide)
  unfold K_L_law_420
  simp only [ok_bn, ok_gd, e1, i1, e2, i2, e3, i3, e4, i4, e5, i5, true_and]
  exact law_one fr_F_A_feed fr_F_R_feed (c_feed _ _ _ _ _) hr
theorem l_end {I : MI} (hr : Rl I I) {L : Nat} {X : Nat → Int32} {y : Nat} (h : ∀ j, j < 6 → inR (nn (y + j)) L = true) : Ok (K_L_law_483 L X (nn y)) I fun s I3 => s = .inl (nn (y + 6)) ∧ Rl I3 I3 := by
  have e1 : nn y + (1 : Int32) = nn (y + 1) := nn_add y 1
  have i1 := h 1 (by decide)
  unfold K_L_law_483
  simp only [ok_bn, ok_gd, e1, i1, true_and]
  exact law_one fr_F_A_end fr_F_R_end (c_end _) hr
theorem l_text (hc : ∀ a : Int32, Call (F_A_text a) (F_R_text a)) {I : MI} (hr : Rl I I) {L : Nat} {X : Nat → Int32} {y : Nat} (h : ∀ j, j < 6 → inR (nn (y + j)) L = true) : Ok (K_L_law_506 L X (nn y)) I fun s I3 => s = .inl (nn (y + 6)) ∧ Rl I3 I3 := by
  have e1 : nn y + (1 : Int32) = nn (y + 1) := nn_add y 1
  have i1 := h 1 (by decide)
  unfold K_L_law_506
  simp only [ok_bn, ok_gd, e1, i1, true_and]
  exact law_one fr_F_A_text fr_F_R_text (hc _) hr
theorem l_fault {I : MI} (hr : Rl I I) {L : Nat} {X : Nat → Int32} {y : Nat} (h : ∀ j, j < 6 → inR (nn (y + j)) L = true) : Ok (K_L_law_529 L X (nn y)) I fun s I3 => s = .inl (nn (y + 6)) ∧ Rl I3 I3 := by
  have e1 : nn y + (1 : Int32) = nn (y + 1) := nn_add y 1
  have i1 := h 1 (by decide)
  unfold K_L_law_529
  simp only [ok_bn, ok_gd, e1, i1, true_and]
  exact law_one fr_F_A_fault fr_F_R_fault (c_fault _) hr
theorem l_of {I : MI} (hr : Rl I I) {L : Nat} {X : Nat → Int32} {y : Nat} (h : ∀ j, j < 6 → inR (nn (y + j)) L = true) : Ok (K_L_law_552 L X (nn y)) I fun s I3 => s = .inl (nn (y + 6)) ∧ Rl I3 I3 := by
  have e1 : nn y + (1 : Int32) = nn (y + 1) := nn_add y 1
  have i1 := h 1 (by decide)
  have e2 : nn y + (2 : Int32) = nn (y + 2) := nn_add y 2
  have i2 := h 2 (by decide)
  unfold K_L_law_552
  simp only [ok_bn, ok_gd, e1, i1, e2, i2, true_and]
  exact law_one fr_F_A_of fr_F_R_of (c_of _ _) hr
theorem l_who {I : MI} (hr : Rl I I) {L : Nat} {X : Nat → Int32} {y : Nat} (h : ∀ j, j < 6 → inR (nn (y + j)) L = true) : Ok (K_L_law_585 L X (nn y)) I fun s I3 => s = .inl (nn (y + 6)) ∧ Rl I3 I3 := by
  have e1 : nn y + (1 : Int32) = nn (y + 1) := nn_add y 1
  have i1 := h 1 (by decide)
  have e2 : nn y + (2 : Int32) = nn (y + 2) := nn_add y 2
  have i2 := h 2 (by decide)
  unfold K_L_law_585
  simp only [ok_bn, ok_gd, e1, i1, e2, i2, true_and]
  exact law_one fr_F_A_who fr_F_R_who (c_who _ _) hr
theorem l_street {I : MI} (hr : Rl I I) {L : Nat} {X : Nat → Int32} {y : Nat} (h : ∀ j, j < 6 → inR (nn (y + j)) L = true) : Ok (K_L_law_618 L X (nn y)) I fun s I3 => s = .inl (nn (y + 6)) ∧ Rl I3 I3 := by
  have e1 : nn y + (1 : Int32) = nn (y + 1) := nn_add y 1
  have i1 := h 1 (by decide)
  have e2 : nn y + (2 : Int32) = nn (y + 2) := nn_add y 2
  have i2 := h 2 (by decide)
  unfold K_L_law_618
  simp only [ok_bn, ok_gd, e1, i1, e2, i2, true_and]
  exact law_one fr_F_A_street fr_F_R_street (c_street _ _) hr
theorem l_book {I : MI} (hr : Rl I I) {L : Nat} {X : Nat → Int32} {y : Nat} (h : ∀ j, j < 6 → inR (nn (y + j)) L = true) : Ok (K_L_law_651 L X (nn y)) I fun s I3 => s = .inl (nn (y + 6)) ∧ Rl I3 I3 := by
  have e1 : nn y + (1 : Int32) = nn (y + 1) := nn_add y 1
  have i1 := h 1 (by decide)
  have e2 : nn y + (2 : Int32) = nn (y + 2) := nn_add y 2
  have i2 := h 2 (by decide)
  unfold K_L_law_651
  simp only [ok_bn, ok_gd, e1, i1, e2, i2, true_and]
  exact law_one fr_F_A_book fr_F_R_book (c_book _ _) hr
theorem l_goes {I : MI} (hr : Rl I I) {L : Nat} {X : Nat → Int32} {y : Nat} (h : ∀ j, j < 6 → inR (nn (y + j)) L = true) : Ok (K_L_law_684 L X (nn y)) I fun s I3 => s = .inl (nn (y + 6)) ∧ Rl I3 I3 := by
  have e1 : nn y + (1 : Int32) = nn (y + 1) := nn_add y 1
  have i1 := h 1 (by decide)
  have e2 : nn y + (2 : Int32) = nn (y + 2) := nn_add y 2
  have i2 := h 2 (by decide)
  unfold K_L_law_684
  simp only [ok_bn, ok_gd, e1, i1, e2, i2, true_and]
  exact law_one fr_F_A_goes fr_F_R_goes (c_goes _ _) hr
theorem l_keeps {I : MI} (hr : Rl I I) {L : Nat} {X : Nat → Int32} {y : Nat} (h : ∀ j, j < 6 → inR (nn (y + j)) L = true) : Ok (K_L_law_717 L X (nn y)) I fun s I3 => s = .inl (nn (y + 6)) ∧ Rl I3 I3 := by
  have e1 : nn y + (1 : Int32) = nn (y + 1) := nn_add y 1
  have i1 := h 1 (by decide)
  unfold K_L_law_717
  simp only [ok_bn, ok_gd, e1, i1, true_and]
  exact law_one fr_F_A_keeps fr_F_R_keeps (c_keeps _) hr
theorem l_sighted {I : MI} (hr : Rl I I) {L : Nat} {X : Nat → Int32} {y : Nat} (h : ∀ j, j < 6 → inR (nn (y + j)) L = true) : Ok (K_L_law_740 L X (nn y)) I fun s I3 => s = .inl (nn (y + 6)) ∧ Rl I3 I3 := by
  have e1 : nn y + (1 : Int32) = nn (y + 1) := nn_add y 1
  have i1 := h 1 (by decide)
  have e2 : nn y + (2 : Int32) = nn (y + 2) := nn_add y 2
  have i2 := h 2 (by decide)
  unfold K_L_law_740
  simp only [ok_bn, ok_gd, e1, i1, e2, i2, true_and]
  exact law_one fr_F_A_sighted fr_F_R_sighted (c_sighted _ _) hr
theorem l_persons (hc : ∀ a b : Int32, Call (F_A_persons a b) (F_R_persons a b)) {I : MI} (hr : Rl I I) {L : Nat} {X : Nat → Int32} {y : Nat} (h : ∀ j, j < 6 → inR (nn (y + j)) L = true) : Ok (K_L_law_773 L X (nn y)) I fun s I3 => s = .inl (nn (y + 6)) ∧ Rl I3 I3 := by
  have e1 : nn y + (1 : Int32) = nn (y + 1) := nn_add y 1
  have i1 := h 1 (by decide)
  have e2 : nn y + (2 : Int32) = nn (y + 2) := nn_add y 2
  have i2 := h 2 (by decide)
  unfold K_L_law_773
  simp only [ok_bn, ok_gd, e1, i1, e2, i2, true_and]
  exact law_one fr_F_A_persons fr_F_R_persons (hc _ _) hr
theorem l_pair {I : MI} (hr : Rl I I) {L : Nat} {X : Nat → Int32} {y : Nat} (h : ∀ j, j < 6 → inR (nn (y + j)) L = true) : Ok (K_L_law_806 L X (nn y)) I fun s I3 => s = .inl (nn (y + 6)) ∧ Rl I3 I3 := by
  have e1 : nn y + (1 : Int32) = nn (y + 1) := nn_add y 1
  have i1 := h 1 (by decide)
  have e2 : nn y + (2 : Int32) = nn (y + 2) := nn_add y 2
  have i2 := h 2 (by decide)
  have e3 : nn y + (3 : Int32) = nn (y + 3) := nn_add y 3
  have i3 := h 3 (by decide)
  unfold K_L_law_806
  by_cases hx : X (nn (y + 3)).toNatClampNeg = 0
  · simp only [ok_bn, ok_gd, e1, i1, e2, i2, e3, i3, true_and, if_pos hx]
    exact law_one fr_F_A_pair fr_F_R_pair (c_pair _ _ _) hr
  · simp only [ok_bn, ok_gd, e1, i1, e2, i2, e3, i3, true_and, if_neg hx]
    exact law_one fr_F_A_pair fr_F_R_pair (c_pair _ _ _) hr
theorem l_names (hc : ∀ a : Int32, Call (F_A_names a) (F_R_names a)) {I : MI} (hr : Rl I I) {L : Nat} {X : Nat → Int32} {y : Nat} (h : ∀ j, j < 6 → inR (nn (y + j)) L = true) : Ok (K_L_law_865 L X (nn y)) I fun s I3 => s = .inl (nn (y + 6)) ∧ Rl I3 I3 := by
  have e1 : nn y + (1 : Int32) = nn (y + 1) := nn_add y 1
  have i1 := h 1 (by decide)
  unfold K_L_law_865
  simp only [ok_bn, ok_gd, e1, i1, true_and]
  exact law_one fr_F_A_names fr_F_R_names (hc _) hr
theorem l_says {I : MI} (hr : Rl I I) {L : Nat} {X : Nat → Int32} {y : Nat} (h : ∀ j, j < 6 → inR (nn (y + j)) L = true) : Ok (K_L_law_888 L X (nn y)) I fun s I3 => s = .inl (nn (y + 6)) ∧ Rl I3 I3 := by
  have e1 : nn y + (1 : Int32) = nn (y + 1) := nn_add y 1
  have i1 := h 1 (by decide)
  have e2 : nn y + (2 : Int32) = nn (y + 2) := nn_add y 2
  have i2 := h 2 (by decide)
  have e3 : nn y + (3 : Int32) = nn (y + 3) := nn_add y 3
  have i3 := h 3 (by decide)
  unfold K_L_law_888
  by_cases hx : X (nn (y + 3)).toNatClampNeg = 0
  · simp only [ok_bn, ok_gd, e1, i1, e2, i2, e3, i3, true_and, if_pos hx]
    exact law_one fr_F_A_says fr_F_R_says (c_says _ _ _) hr
  · simp only [ok_bn, ok_gd, e1, i1, e2, i2, e3, i3, true_and, if_neg hx]
    exact law_one fr_F_A_says fr_F_R_says (c_says _ _ _) hr
theorem l_speakers {I : MI} (hr : Rl I I) {L : Nat} {X : Nat → Int32} {y : Nat} (h : ∀ j, j < 6 → inR (nn (y + j)) L = true) : Ok (K_L_law_947 L X (nn y)) I fun s I3 => s = .inl (nn (y + 6)) ∧ Rl I3 I3 := by
  have e1 : nn y + (1 : Int32) = nn (y + 1) := nn_add y 1
  have i1 := h 1 (by decide)
  unfold K_L_law_947
  simp only [ok_bn, ok_gd, e1, i1, true_and]
  exact law_one fr_F_A_speakers fr_F_R_speakers (c_speakers _) hr
theorem l_vote {I : MI} (hr : Rl I I) {L : Nat} {X : Nat → Int32} {y : Nat} (h : ∀ j, j < 6 → inR (nn (y + j)) L = true) : Ok (K_L_law_970 L X (nn y)) I fun s I3 => s = .inl (nn (y + 6)) ∧ Rl I3 I3 := by
  have e1 : nn y + (1 : Int32) = nn (y + 1) := nn_add y 1
  have i1 := h 1 (by decide)
  unfold K_L_law_970
  simp only [ok_bn, ok_gd, e1, i1, true_and]
  exact law_one fr_F_A_vote fr_F_R_vote (c_vote _) hr
theorem l_swings {I : MI} (hr : Rl I I) {L : Nat} {X : Nat → Int32} {y : Nat} (h : ∀ j, j < 6 → inR (nn (y + j)) L = true) : Ok (K_L_law_993 L X (nn y)) I fun s I3 => s = .inl (nn (y + 6)) ∧ Rl I3 I3 := by
  have e1 : nn y + (1 : Int32) = nn (y + 1) := nn_add y 1
  have i1 := h 1 (by decide)
  have e2 : nn y + (2 : Int32) = nn (y + 2) := nn_add y 2
  have i2 := h 2 (by decide)
  unfold K_L_law_993
  simp only [ok_bn, ok_gd, e1, i1, e2, i2, true_and]
  exact law_one fr_F_A_swings fr_F_R_swings (c_swings _ _) hr
theorem l_least {I : MI} (hr : Rl I I) {L : Nat} {X : Nat → Int32} {y : Nat} (h : ∀ j, j < 6 → inR (nn (y + j)) L = true) : Ok (K_L_law_1026 L X (nn y)) I fun s I3 => s = .inl (nn (y + 6)) ∧ Rl I3 I3 := by
  have e1 : nn y + (1 : Int32) = nn (y + 1) := nn_add y 1
  have i1 := h 1 (by decide)
  unfold K_L_law_1026
  simp only [ok_bn, ok_gd, e1, i1, true_and]
  exact law_one fr_F_A_least fr_F_R_least (c_least _) hr
theorem l_birthdays {I : MI} (hr : Rl I I) {L : Nat} {X : Nat → Int32} {y : Nat} (h : ∀ j, j < 6 → inR (nn (y + j)) L = true) : Ok (K_L_law_1049 L X (nn y)) I fun s I3 => s = .inl (nn (y + 6)) ∧ Rl I3 I3 := by
  have e1 : nn y + (1 : Int32) = nn (y + 1) := nn_add y 1
  have i1 := h 1 (by decide)
  have e2 : nn y + (2 : Int32) = nn (y + 2) := nn_add y 2
  have i2 := h 2 (by decide)
  have e3 : nn y + (3 : Int32) = nn (y + 3) := nn_add y 3
  have i3 := h 3 (by decide)
  unfold K_L_law_1049
  simp only [ok_bn, ok_gd, e1, i1, e2, i2, e3, i3, true_and]
  exact law_one fr_F_A_birthdays fr_F_R_birthdays (c_birthdays _ _ _) hr
theorem l_letter {I : MI} (hr : Rl I I) {L : Nat} {X : Nat → Int32} {y : Nat} (h : ∀ j, j < 6 → inR (nn (y + j)) L = true) : Ok (K_L_law_1092 L X (nn y)) I fun s I3 => s = .inl (nn (y + 6)) ∧ Rl I3 I3 := by
  have e1 : nn y + (1 : Int32) = nn (y + 1) := nn_add y 1
  have i1 := h 1 (by decide)
  have e2 : nn y + (2 : Int32) = nn (y + 2) := nn_add y 2
  have i2 := h 2 (by decide)
  unfold K_L_law_1092
  simp only [ok_bn, ok_gd, e1, i1, e2, i2, true_and]
  exact law_one fr_F_A_letter fr_F_R_letter (c_letter _ _) hr
theorem l_notes {I : MI} (hr : Rl I I) {L : Nat} {X : Nat → Int32} {y : Nat} (h : ∀ j, j < 6 → inR (nn (y + j)) L = true) : Ok (K_L_law_1125 L X (nn y)) I fun s I3 => s = .inl (nn (y + 6)) ∧ Rl I3 I3 := by
  have e1 : nn y + (1 : Int32) = nn (y + 1) := nn_add y 1
  have i1 := h 1 (by decide)
  unfold K_L_law_1125
  simp only [ok_bn, ok_gd, e1, i1, true_and]
  exact law_one fr_F_A_notes fr_F_R_notes (c_notes _) hr
theorem l_boot {I : MI} (hr : Rl I I) {L : Nat} {X : Nat → Int32} {y : Nat} (h : ∀ j, j < 6 → inR (nn (y + j)) L = true) : Ok (K_L_law_1148 L X (nn y)) I fun s I3 => s = .inl (nn (y + 6)) ∧ Rl I3 I3 := by
  have e1 : nn y + (1 : Int32) = nn (y + 1) := nn_add y 1
  have i1 := h 1 (by decide)
  unfold K_L_law_1148
  simp only [ok_bn, ok_gd, e1, i1, true_and]
  exact law_one fr_F_A_boot fr_F_R_boot (c_boot _) hr
theorem l_bed {I : MI} (hr : Rl I I) {L : Nat} {X : Nat → Int32} {y : Nat} (h : ∀ j, j < 6 → inR (nn (y + j)) L = true) : Ok (K_L_law_1171 L X (nn y)) I fun s I3 => s = .inl (nn (y + 6)) ∧ Rl I3 I3 := by
  have e1 : nn y + (1 : Int32) = nn (y + 1) := nn_add y 1
  have i1 := h 1 (by decide)
  have e2 : nn y + (2 : Int32) = nn (y + 2) := nn_add y 2
  have i2 := h 2 (by decide)
  unfold K_L_law_1171
  simp only [ok_bn, ok_gd, e1, i1, e2, i2, true_and]
  exact law_one fr_F_A_bed fr_F_R_bed (c_bed _ _) hr
theorem l_beds (hc : ∀ a : Int32, Call (F_A_beds a) (F_R_beds a)) {I : MI} (hr : Rl I I) {L : Nat} {X : Nat → Int32} {y : Nat} (h : ∀ j, j < 6 → inR (nn (y + j)) L = true) : Ok (K_L_law_1204 L X (nn y)) I fun s I3 => s = .inl (nn (y + 6)) ∧ Rl I3 I3 := by
  have e1 : nn y + (1 : Int32) = nn (y + 1) := nn_add y 1
  have i1 := h 1 (by decide)
  unfold K_L_law_1204
  simp only [ok_bn, ok_gd, e1, i1, true_and]
  exact law_one fr_F_A_beds fr_F_R_beds (hc _) hr
theorem l_box {I : MI} (hr : Rl I I) {L : Nat} {X : Nat → Int32} {y : Nat} (h : ∀ j, j < 6 → inR (nn (y + j)) L = true) : Ok (K_L_law_1227 L X (nn y)) I fun s I3 => s = .inl (nn (y + 6)) ∧ Rl I3 I3 := by
  have e1 : nn y + (1 : Int32) = nn (y + 1) := nn_add y 1
  have i1 := h 1 (by decide)
  unfold K_L_law_1227
  simp only [ok_bn, ok_gd, e1, i1, true_and]
  exact law_one fr_F_A_box fr_F_R_box (c_box _) hr
theorem l_named {I : MI} (hr : Rl I I) {L : Nat} {X : Nat → Int32} {y : Nat} (h : ∀ j, j < 6 → inR (nn (y + j)) L = true) : Ok (K_L_law_1250 L X (nn y)) I fun s I3 => s = .inl (nn (y + 6)) ∧ Rl I3 I3 := by
  have e1 : nn y + (1 : Int32) = nn (y + 1) := nn_add y 1
  have i1 := h 1 (by decide)
  unfold K_L_law_1250
  simp only [ok_bn, ok_gd, e1, i1, true_and]
  exact law_one fr_F_A_named fr_F_R_named (c_named _) hr
theorem l_net {I : MI} (hr : Rl I I) {L : Nat} {X : Nat → Int32} {y : Nat} (h : ∀ j, j < 6 → inR (nn (y + j)) L = true) : Ok (K_L_law_1273 L X (nn y)) I fun s I3 => s = .inl (nn (y + 6)) ∧ Rl I3 I3 := by
  have e1 : nn y + (1 : Int32) = nn (y + 1) := nn_add y 1
  have i1 := h 1 (by decide)
  have e2 : nn y + (2 : Int32) = nn (y + 2) := nn_add y 2
  have i2 := h 2 (by decide)
  unfold K_L_law_1273
  simp only [ok_bn, ok_gd, e1, i1, e2, i2, true_and]
  exact law_one fr_F_A_net fr_F_R_net (c_net _ _) hr
theorem l_hoop {I : MI} (hr : Rl I I) {L : Nat} {X : Nat → Int32} {y : Nat} (h : ∀ j, j < 6 → inR (nn (y + j)) L = true) : Ok (K_L_law_1306 L X (nn y)) I fun s I3 => s = .inl (nn (y + 6)) ∧ Rl I3 I3 := by
  have e1 : nn y + (1 : Int32) = nn (y + 1) := nn_add y 1
  have i1 := h 1 (by decide)
  have e2 : nn y + (2 : Int32) = nn (y + 2) := nn_add y 2
  have i2 := h 2 (by decide)
  have e3 : nn y + (3 : Int32) = nn (y + 3) := nn_add y 3
  have i3 := h 3 (by decide)
  unfold K_L_law_1306
  simp only [ok_bn, ok_gd, e1, i1, e2, i2, e3, i3, true_and]
  exact law_one fr_F_A_hoop fr_F_R_hoop (c_hoop _ _ _) hr
theorem l_loan {I : MI} (hr : Rl I I) {L : Nat} {X : Nat → Int32} {y : Nat} (h : ∀ j, j < 6 → inR (nn (y + j)) L = true) : Ok (K_L_law_1349 L X (nn y)) I fun s I3 => s = .inl (nn (y + 6)) ∧ Rl I3 I3 := by
  have e1 : nn y + (1 : Int32) = nn (y + 1) := nn_add y 1
  have i1 := h 1 (by decide)
  have e2 : nn y + (2 : Int32) = nn (y + 2) := nn_add y 2
  have i2 := h 2 (by decide)
  have e3 : nn y + (3 : Int32) = nn (y + 3) := nn_add y 3
  have i3 := h 3 (by decide)
  unfold K_L_law_1349
  simp only [ok_bn, ok_gd, e1, i1, e2, i2, e3, i3, true_and]
  exact law_one fr_F_A_loan fr_F_R_loan (c_loan _ _ _) hr
theorem l_settled {I : MI} (hr : Rl I I) {L : Nat} {X : Nat → Int32} {y : Nat} (h : ∀ j, j < 6 → inR (nn (y + j)) L = true) : Ok (K_L_law_1392 L X (nn y)) I fun s I3 => s = .inl (nn (y + 6)) ∧ Rl I3 I3 := by
  have e1 : nn y + (1 : Int32) = nn (y + 1) := nn_add y 1
  have i1 := h 1 (by decide)
  unfold K_L_law_1392
  simp only [ok_bn, ok_gd, e1, i1, true_and]
  exact law_one fr_F_A_settled fr_F_R_settled (c_settled _) hr
theorem l_game {I : MI} (hr : Rl I I) {L : Nat} {X : Nat → Int32} {y : Nat} (h : ∀ j, j < 6 → inR (nn (y + j)) L = true) : Ok (K_L_law_1415 L X (nn y)) I fun s I3 => s = .inl (nn (y + 6)) ∧ Rl I3 I3 := by
  have e1 : nn y + (1 : Int32) = nn (y + 1) := nn_add y 1
  have i1 := h 1 (by decide)
  have e2 : nn y + (2 : Int32) = nn (y + 2) := nn_add y 2
  have i2 := h 2 (by decide)
  have e3 : nn y + (3 : Int32) = nn (y + 3) := nn_add y 3
  have i3 := h 3 (by decide)
  unfold K_L_law_1415
  simp only [ok_bn, ok_gd, e1, i1, e2, i2, e3, i3, true_and]
  exact law_one fr_F_A_game fr_F_R_game (c_game _ _ _) hr
theorem l_undo {I : MI} (hr : Rl I I) {L : Nat} {X : Nat → Int32} {y : Nat} (h : ∀ j, j < 6 → inR (nn (y + j)) L = true) : Ok (K_L_law_1458 L X (nn y)) I fun s I3 => s = .inl (nn (y + 6)) ∧ Rl I3 I3 := by
  unfold K_L_law_1458
  simp only [ok_bn, ok_gd, true_and]
  exact law_one fr_F_A_undo fr_F_R_undo c_undo hr
theorem l_image {I : MI} (hr : Rl I I) {L : Nat} {X : Nat → Int32} {y : Nat} (h : ∀ j, j < 6 → inR (nn (y + j)) L = true) : Ok (K_L_law_1471 L X (nn y)) I fun s I3 => s = .inl (nn (y + 6)) ∧ Rl I3 I3 := by
  have e1 : nn y + (1 : Int32) = nn (y + 1) := nn_add y 1
  have i1 := h 1 (by decide)
  unfold K_L_law_1471
  by_cases hx : X (nn (y + 1)).toNatClampNeg = 0
  · simp only [ok_bn, ok_gd, e1, i1, true_and, if_pos hx]
    exact law_one fr_F_A_image fr_F_R_image (c_image (Or.inl rfl)) hr
  · simp only [ok_bn, ok_gd, e1, i1, true_and, if_neg hx]
    exact law_one fr_F_A_image fr_F_R_image (c_image (Or.inr rfl)) hr
theorem l_look {I : MI} (hr : Rl I I) {L : Nat} {X : Nat → Int32} {y : Nat} (h : ∀ j, j < 6 → inR (nn (y + j)) L = true) : Ok (K_L_law_1510 L X (nn y)) I fun s I3 => s = .inl (nn (y + 6)) ∧ Rl I3 I3 := by
  have e1 : nn y + (1 : Int32) = nn (y + 1) := nn_add y 1
  have i1 := h 1 (by decide)
  unfold K_L_law_1510
  simp only [ok_bn, ok_gd, e1, i1, true_and]
  exact law_one fr_F_A_look fr_F_R_look (c_look _) hr
theorem law_ok (ct : ∀ a : Int32, Call (F_A_text a) (F_R_text a)) (cb : ∀ a : Int32, Call (F_A_beds a) (F_R_beds a)) (cp : ∀ a b : Int32, Call (F_A_persons a b) (F_R_persons a b)) (cn : ∀ a : Int32, Call (F_A_names a) (F_R_names a)) (h0 : Rl I0 I0) : LawOK := by
  intro L X hL
  have hO : Ok (K_L_law_18 L X 0) I0 fun v _ => v = 1 := by
    unfold K_L_law_18
    have hl : (Int32.ofNat L - 6).toInt = (L : Int) - 6 := by
      rw [Int32.toInt_sub, nn_toInt (by omega)]
      have e6 : (6 : Int32).toInt = 6 := rfl
      rw [e6]
      exact Int.bmod_eq_of_le (by omega) (by omega)
    refine ok_lp (fun k x I => x = nn (6 * k) ∧ Rl I I ∧ 6 * k ≤ L + 6) ((L + 11) / 6) (fun k x I hk hP => ?_) (fun x I hP => ?_) FU 0 I0 (by rw [FU_eq]; omega) ⟨rfl, h0, by omega⟩
    · obtain ⟨rfl, hr, hb⟩ := hP
      unfold B_L_law_18
      rw [ok_ite]
      by_cases hy : Int32.ofNat L - 6 < nn (6 * k)
      · rw [if_pos hy]
        simp (decide := true) only [ok_bn, ok_gdZ, ok_rt, or_true, true_and]
      · rw [if_neg hy]
        rw [Int32.lt_iff_toInt_lt, hl, nn_toInt (by omega)] at hy
        have h : ∀ j, j < 6 → inR (nn (6 * k + j)) L = true := fun j hj => inR_nn (by omega) (by omega)
        have hin : inR (nn (6 * k)) L = true := h 0 (by decide)
        rw [ok_bn, ok_gd]
        refine ⟨hin, ?_⟩
        generalize (X (nn (6 * k)).toNatClampNeg &&& 63) = op
        refine ok_mono (Q := fun s I3 => s = .inl (nn (6 * k + 6)) ∧ Rl I3 I3) ?_ fun s I3 q => by
          obtain ⟨rfl, q2⟩ := q
          exact ⟨by rw [show 6 * (k + 1) = 6 * k + 6 by omega], q2, by omega⟩
        by_cases o0 : op = (0 : Int32)
        · rw [if_pos o0]; exact l_state hr h
        rw [if_neg o0]
        by_cases o1 : op = (1 : Int32)
        · rw [if_pos o1]; exact l_person hr h
        rw [if_neg o1]
        by_cases o2 : op = (2 : Int32)
        · rw [if_pos o2]; exact l_alias hr h
        rw [if_neg o2]
        by_cases o3 : op = (3 : Int32)
        · rw [if_pos o3]; exact l_set hr h
        rw [if_neg o3]
        by_cases o4 : op = (4 : Int32)
        · rw [if_pos o4]; exact l_act hr h
        rw [if_neg o4]
        by_cases o5 : op = (5 : Int32)
        · rw [if_pos o5]; exact l_hours hr h
        rw [if_neg o5]
        by_cases o6 : op = (6 : Int32)
        · rw [if_pos o6]; exact l_feed hr h
        rw [if_neg o6]
        by_cases o7 : op = (7 : Int32)
        · rw [if_pos o7]; exact l_end hr h
        rw [if_neg o7]
        by_cases o8 : op = (8 : Int32)
        · rw [if_pos o8]; exact l_text ct hr h
        rw [if_neg o8]
        by_cases o9 : op = (9 : Int32)
        · rw [if_pos o9]; exact l_fault hr h
        rw [if_neg o9]
        by_cases o10 : op = (10 : Int32)
        · rw [if_pos o10]; exact l_of hr h
        rw [if_neg o10]
        by_cases o11 : op = (11 : Int32)
        · rw [if_pos o11]; exact l_who hr h
        rw [if_neg o11]
        by_cases o12 : op = (12 : Int32)
        · rw [if_pos o12]; exact l_street hr h
        rw [if_neg o12]
        by_cases o13 : op = (13 : Int32)
        · rw [if_pos o13]; exact l_book hr h
        rw [if_neg o13]
        by_cases o14 : op = (14 : Int32)
        · rw [if_pos o14]; exact l_goes hr h
        rw [if_neg o14]
        by_cases o15 : op = (15 : Int32)
        · rw [if_pos o15]; exact l_keeps hr h
        rw [if_neg o15]
        by_cases o16 : op = (16 : Int32)
        · rw [if_pos o16]; exact l_sighted hr h
        rw [if_neg o16]
        by_cases o17 : op = (17 : Int32)
        · rw [if_pos o17]; exact l_persons cp hr h
        rw [if_neg o17]
        by_cases o18 : op = (18 : Int32)
        · rw [if_pos o18]; exact l_pair hr h
        rw [if_neg o18]
        by_cases o19 : op = (19 : Int32)
        · rw [if_pos o19]; exact l_names cn hr h
        rw [if_neg o19]
        by_cases o20 : op = (20 : Int32)
        · rw [if_pos o20]; exact l_says hr h
        rw [if_neg o20]
        by_cases o21 : op = (21 : Int32)
        · rw [if_pos o21]; exact l_speakers hr h
        rw [if_neg o21]
        by_cases o22 : op = (22 : Int32)
        · rw [if_pos o22]; exact l_vote hr h
        rw [if_neg o22]
        by_cases o23 : op = (23 : Int32)
        · rw [if_pos o23]; exact l_swings hr h
        rw [if_neg o23]
        by_cases o24 : op = (24 : Int32)
        · rw [if_pos o24]; exact l_least hr h
        rw [if_neg o24]
        by_cases o25 : op = (25 : Int32)
        · rw [if_pos o25]; exact l_birthdays hr h
        rw [if_neg o25]
        by_cases o26 : op = (26 : Int32)
        · rw [if_pos o26]; exact l_letter hr h
        rw [if_neg o26]
        by_cases o27 : op = (27 : Int32)
        · rw [if_pos o27]; exact l_notes hr h
        rw [if_neg o27]
        by_cases o28 : op = (28 : Int32)
        · rw [if_pos o28]; exact l_boot hr h
        rw [if_neg o28]
        by_cases o29 : op = (29 : Int32)
        · rw [if_pos o29]; exact l_bed hr h
        rw [if_neg o29]
        by_cases o30 : op = (30 : Int32)
        · rw [if_pos o30]; exact l_beds cb hr h
        rw [if_neg o30]
        by_cases o31 : op = (31 : Int32)
        · rw [if_pos o31]; exact l_box hr h
        rw [if_neg o31]
        by_cases o32 : op = (32 : Int32)
        · rw [if_pos o32]; exact l_named hr h
        rw [if_neg o32]
        by_cases o33 : op = (33 : Int32)
        · rw [if_pos o33]; exact l_net hr h
        rw [if_neg o33]
        by_cases o34 : op = (34 : Int32)
        · rw [if_pos o34]; exact l_hoop hr h
        rw [if_neg o34]
        by_cases o35 : op = (35 : Int32)
        · rw [if_pos o35]; exact l_loan hr h
        rw [if_neg o35]
        by_cases o36 : op = (36 : Int32)
        · rw [if_pos o36]; exact l_settled hr h
        rw [if_neg o36]
        by_cases o37 : op = (37 : Int32)
        · rw [if_pos o37]; exact l_game hr h
        rw [if_neg o37]
        by_cases o38 : op = (38 : Int32)
        · rw [if_pos o38]; exact l_undo hr h
        rw [if_neg o38]
        by_cases o39 : op = (39 : Int32)
        · rw [if_pos o39]; exact l_image hr h
        rw [if_neg o39]
        by_cases o40 : op = (40 : Int32)
        · rw [if_pos o40]; exact l_look hr h
        rw [if_neg o40]
        unfold K_L_law_1533
        rw [ok_rt]
        exact ⟨congrArg Sum.inl (nn_add _ 6), hr⟩
    · obtain ⟨rfl, hr, hb⟩ := hP
      unfold B_L_law_18
      have hy : Int32.ofNat L - 6 < nn (6 * ((L + 11) / 6)) := by
        rw [Int32.lt_iff_toInt_lt, hl, nn_toInt (by omega)]
        omega
      rw [ok_ite, if_pos hy]
      simp (decide := true) only [ok_bn, ok_gdZ, ok_rt, or_true, true_and]
  obtain ⟨v, I1, h1, rfl⟩ := hO
  exact ⟨I1, h1⟩
end LAW90
