/-! loan, pair -/
section SC6
/-- a row is filled -/
theorem fill_lp {β : Type} {body : Int32 → M (Int32 ⊕ β)} {J : MI} {a n : Nat} {v : Int32} {e : β} (hn : n < 5000) (hs : ∀ k K, k < n → body (nn k) K = some (.inl (nn (k + 1)), bup K a (upd (K a) k v))) (he : ∀ K, body (nn n) K = some (.inr e, K)) : lp body FU 0 J = some (e, bup J a (fun k => if k < n then v else J a k)) := by
  have h := ok_lp (body := body) (Q := fun x K => x = e ∧ K = bup J a (fun k => if k < n then v else J a k)) (fun k x K => x = nn k ∧ K = bup J a (fun j => if j < k then v else J a j)) n
    (fun k x K hk hi => by
      obtain ⟨rfl, rfl⟩ := hi
      rw [ok_eq (hs k _ hk)]
      refine ⟨rfl, ?_⟩
      funext c
      by_cases hc : c = a
      · subst hc
        rw [bup_eq, bup_eq]
        funext j
        rw [bup_eq]
        by_cases hj : j = k
        · subst hj; rw [upd_eq, if_pos (by omega)]
        · rw [upd_ne _ _ hj]
          by_cases h2 : j < k
          · rw [if_pos h2, if_pos (by omega)]
          · rw [if_neg h2, if_neg (by omega)]
      · rw [bup_ne _ _ hc, bup_ne _ _ hc, bup_ne _ _ hc])
    (fun x K hi => by
      obtain ⟨rfl, rfl⟩ := hi
      rw [ok_eq (he _)]
      exact ⟨rfl, rfl⟩) FU 0 J (by rw [FU_eq]; exact hn) ⟨rfl, by
      funext c
      by_cases hc : c = a
      · subst hc; rw [bup_eq]; funext j; rw [if_neg (by omega)]
      · rw [bup_ne _ _ hc]⟩
  obtain ⟨x, K, h1, rfl, rfl⟩ := h
  exact h1
theorem loanS_congr {c d : Nat → Int32} {k : Nat} : ∀ {n : Nat}, (∀ i, i < 3 * n → c i = d i) → loanS c k n = loanS d k n := by
  intro n
  induction n with
  | zero => intro _; rfl
  | succ n ih =>
    intro h
    unfold loanS
    rw [ih (fun i hi => h i (by omega)), h (3 * n) (by omega), h (3 * n + 1) (by omega), h (3 * n + 2) (by omega)]
theorem put_L {I J I1 J1 : MI} {n p q v : Nat} (hn : n < 8) (hp : p < 6) (hq : q < 6) (hv : v < 100) (hpq : p ≠ q) (hI : I1 45 3 = nn (n + 1)) (hJ : J1 207 70 = nn (n + 1)) (hC : I1 46 = upd (upd (upd (I 46) (3 * n) (nn p)) (3 * n + 1) (nn q)) (3 * n + 2) (nn v)) (hT : J1 250 = upd (upd (J 250) p (J 250 p + nn v)) q (J 250 q - nn v)) (h1 : ∀ i, i < n → (∃ m, m < 6 ∧ I 46 (3 * i) = nn m) ∧ (∃ m, m < 6 ∧ I 46 (3 * i + 1) = nn m) ∧ ∃ m, m < 100 ∧ I 46 (3 * i + 2) = nn m) (h2 : ∀ k, k < 6 → J 250 k = loanS (I 46) k n) : bLoa I1 45 J1 := by
  refine ⟨n + 1, by omega, hI, hJ, fun i hi => ?_, fun k hk => ?_⟩
  · show (∃ m, m < 6 ∧ I1 46 (3 * i) = nn m) ∧ (∃ m, m < 6 ∧ I1 46 (3 * i + 1) = nn m) ∧ ∃ m, m < 100 ∧ I1 46 (3 * i + 2) = nn m
    rw [hC]
    rcases Nat.lt_or_ge i n with h | h
    · rw [upd_ne _ _ (by omega), upd_ne _ _ (by omega), upd_ne _ _ (by omega), upd_ne _ _ (by omega), upd_ne _ _ (by omega), upd_ne _ _ (by omega), upd_ne _ _ (by omega), upd_ne _ _ (by omega), upd_ne _ _ (by omega)]
      exact h1 i h
    · have e : i = n := by omega
      subst e
      exact ⟨⟨p, hp, by rw [upd_ne _ _ (by omega), upd_ne _ _ (by omega), upd_eq]⟩, ⟨q, hq, by rw [upd_ne _ _ (by omega), upd_eq]⟩, v, hv, by rw [upd_eq]⟩
  · show J1 250 k = loanS (I1 46) k (n + 1)
    have e0 : I1 46 (3 * n) = nn p := by rw [hC, upd_ne _ _ (by omega), upd_ne _ _ (by omega), upd_eq]
    have e1 : I1 46 (3 * n + 1) = nn q := by rw [hC, upd_ne _ _ (by omega), upd_eq]
    have e2 : I1 46 (3 * n + 2) = nn v := by rw [hC, upd_eq]
    have e3 : loanS (I1 46) k n = loanS (I 46) k n := loanS_congr fun i hi => by rw [hC, upd_ne _ _ (by omega), upd_ne _ _ (by omega), upd_ne _ _ (by omega)]
    unfold loanS
    rw [e0, e1, e2, e3, ← h2 k hk, hT]
    by_cases kp : k = p
    · subst kp
      rw [upd_ne _ _ hpq, upd_eq, if_pos rfl, if_neg (nn_ne (by omega) (by omega) (Ne.symm hpq)), Int32.sub_zero]
    · by_cases kq : k = q
      · subst kq
        rw [upd_eq, if_neg (nn_ne (by omega) (by omega) hpq), if_pos rfl, Int32.add_zero]
      · rw [upd_ne _ _ kq, upd_ne _ _ kp, if_neg (nn_ne (by omega) (by omega) (Ne.symm kp)), if_neg (nn_ne (by omega) (by omega) (Ne.symm kq)), Int32.add_zero, Int32.sub_zero]
theorem loan53 {x y z : Int32} : K_A_loan_53 x y z = rt (-1) := by
  unfold K_A_loan_53
  rw [if_pos rfl]
theorem wip_L {J : MI} : K_R_loan_18 0 J = some (0, bup J 250 (fun k => if k < 6 then 0 else J 250 k)) := by
  unfold K_R_loan_18
  refine fill_lp (by decide) (fun k K hk => ?_) (fun K => ?_)
  · unfold B_R_loan_18
    rw [ite_ap, if_pos (show nn k < 6 from (nn_lt (j := k) (k := 6) (by omega) (by decide)).mpr hk), bn_sr _ _ (inR_nn hk (by omega)), nn_nat (by omega), nn_s]
    rfl
  · rfl
theorem c_loan (x y z : Int32) : Call (F_A_loan x y z) (F_R_loan x y z) := by
  refine call_of fun I J hr => ?_
  obtain ⟨⟨-, -, -, -, -, -, -, -, -, -, -, -, -, -, -, k16⟩, -, -, -, kc⟩ := id hr
  obtain ⟨n, hn, hI, hJ, hc, hl⟩ := k16
  obtain ⟨tw, tr⟩ := con_at kc (t := 45) (w := 3) (r := 8) (by decide)
  unfold F_A_loan F_R_loan
  by_cases h1 : x = -1
  · simp (decide := true) only [ok_bn, ok_wr, ok_ite, if_pos h1, ok_wipe, ok_rt, ok_eq wip_L, true_and]
    refine rl_16 [45] [250] [0, 70] hr (ui_bup (ui_refl _ _) rfl) (uj_bup (uj_fld (uj_fld (uj_refl _ _ _) rfl) rfl) rfl (by decide)) (ut_sz (ut_refl _)) rfl rfl rfl ⟨0, by decide, rfl, rfl, fun i hi => absurd hi (by omega), fun k hk => ?_⟩ rfl
    simp (decide := true) only [bup_eq]
    rw [if_pos hk]
    rfl
  · rcases rng (v := x) 0 5 (by decide) (by decide) with ⟨p, -, a2, rfl⟩ | out
    · have q := rng_in (a := 0) (b := 5) (by decide) (Nat.zero_le p) a2
      have wA : F_A_within (nn p) 0 5 = rt 1 := wi_in q.1 q.2
      have wR : F_R_isIn (nn p) 0 5 = rt 1 := ri_in q.1 q.2
      rcases rng (v := y) 0 5 (by decide) (by decide) with ⟨r, -, b2, rfl⟩ | out2
      · have q2 := rng_in (a := 0) (b := 5) (by decide) (Nat.zero_le r) b2
        have wA2 : F_A_within (nn r) 0 5 = rt 1 := wi_in q2.1 q2.2
        have wR2 : F_R_isIn (nn r) 0 5 = rt 1 := ri_in q2.1 q2.2
        by_cases hpr : p = r
        · have e : (nn p = nn r) := by rw [hpr]
          simp (decide := true) only [ok_bn, ok_wr, ok_ite, if_neg h1, ok_rt, wA, wR, wA2, wR2, if_pos e, loan53, if_true, if_false, true_and]
          exact rl_told hr
        · have e : ¬ (nn p = nn r) := nn_ne (by omega) (by omega) hpr
          rcases rng (v := z) 1 99 (by decide) (by decide) with ⟨v, d1, d2, rfl⟩ | out3
          · have q3 := rng_in (a := 1) (b := 99) (by decide) d1 d2
            have wA3 : F_A_within (nn v) 1 99 = rt 1 := wi_in q3.1 q3.2
            have wR3 : F_R_isIn (nn v) 1 99 = rt 1 := ri_in q3.1 q3.2
            by_cases hf : n = 8
            · subst hf
              have e6 : J 207 70 = 8 := hJ
              simp (decide := true) only [ok_bn, ok_wr, ok_rd, ok_ite, if_neg h1, ok_rt, wA, wR, wA2, wR2, wA3, wR3, if_neg e, ok_putF hI tr (by decide) (by decide), e6, bup_eq, upd_ne, if_true, if_false, true_and]
              exact rl_told hr
            · have hlt : n < 8 := by omega
              have e6 : ¬ nn n = 8 := nn_ne (by omega) (by decide) hf
              have ip : inR (nn p) 6 = true := inR_nn (by omega) (by omega)
              have tp : (nn p).toNatClampNeg = p := nn_nat (by omega)
              have ir : inR (nn r) 6 = true := inR_nn (by omega) (by omega)
              have tr2 : (nn r).toNatClampNeg = r := nn_nat (by omega)
              simp (decide := true) only [ok_bn, ok_wr, ok_rd, ok_ite, ok_sr, ok_ld, if_neg h1, ok_rt, wA, wR, wA2, wR2, wA3, wR3, if_neg e, ok_put tw hI tr hlt rfl (by decide) (by decide) (by decide), hJ, e6, ip, tp, ir, tr2, bup_eq, bup_ne, upd_eq, upd_ne, if_true, if_false, true_and]
              refine ⟨nn_add n 1, rl_16 [45, 46] [250] [0, 70] hr (ui_bup (ui_bup (ui_refl _ _) rfl) rfl) ?_ (ut_sz (ut_bup (ut_refl _) rfl)) rfl rfl rfl (put_L (p := p) (q := r) (v := v) hlt (by omega) (by omega) (by omega) hpr ?_ ?_ ?_ ?_ hc hl) rfl⟩
              · exact uj_fld (uj_bup (uj_bup (uj_fld (uj_refl _ _ _) rfl) rfl (by decide)) rfl (by decide)) rfl
              · rw [bup_eq, upd_eq]
              · rw [bup_eq, upd_eq]; exact nn_add n 1
              · rw [bup_ne _ _ (by decide), bup_eq, lnF3]
              · simp (decide := true) only [bup_eq, bup_ne]
                rw [upd_ne _ _ (Ne.symm hpr)]
          · have wA3 : F_A_within z 1 99 = rt 0 := wi_out out3
            have wR3 : F_R_isIn z 1 99 = rt 0 := ri_out out3
            simp (decide := true) only [ok_bn, ok_wr, ok_ite, if_neg h1, ok_rt, wA, wR, wA2, wR2, wA3, wR3, if_neg e, loan53, if_true, if_false, true_and]
            exact rl_told hr
      · have wA2 : F_A_within y 0 5 = rt 0 := wi_out out2
        have wR2 : F_R_isIn y 0 5 = rt 0 := ri_out out2
        simp (decide := true) only [ok_bn, ok_wr, ok_ite, if_neg h1, ok_rt, wA, wR, wA2, wR2, loan53, if_true, if_false, true_and]
        exact rl_told hr
    · have wA : F_A_within x 0 5 = rt 0 := wi_out out
      have wR : F_R_isIn x 0 5 = rt 0 := ri_out out
      simp (decide := true) only [ok_bn, ok_wr, ok_ite, if_neg h1, ok_rt, wA, wR, loan53, if_true, if_false, true_and]
      exact rl_told hr
/-! pairs -/
def mskP (n : Nat) (f g : Nat → Nat) (ok : Nat → Prop) (R : Nat → Int32) : Prop := ∀ s, s < 10 → ∃ m, m < 1024 ∧ R s = nn m ∧ ∀ b, b < 10 → (m.testBit b = true ↔ ∃ i, i < n ∧ ok i ∧ ((f i = s ∧ g i = b) ∨ (g i = s ∧ f i = b)))
theorem msk_put {n a b : Nat} {f g : Nat → Nat} {ok ok2 : Nat → Prop} {R : Nat → Int32} (h : mskP n f g ok R) (ha : a < 10) (hb : b < 10) (hab : a ≠ b) (h1 : ∀ i, i < n → (ok2 i ↔ ok i)) (h2 : ok2 n) : mskP (n + 1) (fun i => if i = n then a else f i) (fun i => if i = n then b else g i) ok2 (upd (upd R a (R a ||| (1 <<< (nn b &&& 31)))) b (R b ||| (1 <<< (nn a &&& 31)))) := by
  intro s hs
  obtain ⟨m, m1, m2, m3⟩ := h s hs
  have key : ∀ c d : Nat, c < 10 → (c = s) → (∀ e, e < 10 → ((m ||| 2 ^ d).testBit e = true ↔ (m.testBit e = true ∨ d = e))) := by
    intro c d _ _ e _
    rw [tb_or2]
    simp
  have old : ∀ e, (∃ i, i < n + 1 ∧ ok2 i ∧ (((if i = n then a else f i) = s ∧ (if i = n then b else g i) = e) ∨ ((if i = n then b else g i) = s ∧ (if i = n then a else f i) = e))) ↔ ((∃ i, i < n ∧ ok i ∧ ((f i = s ∧ g i = e) ∨ (g i = s ∧ f i = e))) ∨ ((a = s ∧ b = e) ∨ (b = s ∧ a = e))) := by
    intro e
    constructor
    · rintro ⟨i, i1, i2, i3⟩
      by_cases q : i = n
      · rw [if_pos q, if_pos q] at i3; exact Or.inr i3
      · rw [if_neg q, if_neg q] at i3; exact Or.inl ⟨i, by omega, (h1 i (by omega)).mp i2, i3⟩
    · rintro (⟨i, i1, i2, i3⟩ | i3)
      · exact ⟨i, by omega, (h1 i i1).mpr i2, by rw [if_neg (by omega), if_neg (by omega)]; exact i3⟩
      · exact ⟨n, by omega, h2, by rw [if_pos rfl, if_pos rfl]; exact i3⟩
  have up : ∀ {d : Nat}, d < 10 → m ||| 2 ^ d < 1024 := fun hd => Nat.or_lt_two_pow (n := 10) m1 (Nat.pow_lt_pow_right (by decide) hd)
  have nd : ∀ {d : Nat}, d < 10 → nn m ||| (1 <<< (nn d &&& 31)) = nn (m ||| 2 ^ d) := fun {d} hd => by
    have : 2 ^ d < 2 ^ 10 := Nat.pow_lt_pow_right (by decide) hd
    rw [shl_nn (by omega), or_nn (by omega) (by omega)]
  by_cases sb : s = b
  · refine ⟨m ||| 2 ^ a, up ha, by rw [sb, upd_eq, ← sb, m2, nd ha], fun e he => ?_⟩
    rw [key s a hs rfl e he, m3 e he, old e]
    constructor
    · rintro (q | q)
      · exact Or.inl q
      · exact Or.inr (Or.inr ⟨sb.symm, q⟩)
    · rintro (q | ⟨q1, q2⟩ | ⟨q1, q2⟩)
      · exact Or.inl q
      · exact absurd (q1.trans sb) hab
      · exact Or.inr q2
  · by_cases sa : s = a
    · refine ⟨m ||| 2 ^ b, up hb, by rw [upd_ne _ _ sb, sa, upd_eq, ← sa, m2, nd hb], fun e he => ?_⟩
      rw [key s b hs rfl e he, m3 e he, old e]
      constructor
      · rintro (q | q)
        · exact Or.inl q
        · exact Or.inr (Or.inl ⟨sa.symm, q⟩)
      · rintro (q | ⟨q1, q2⟩ | ⟨q1, q2⟩)
        · exact Or.inl q
        · exact Or.inr q2
        · exact absurd q1.symm sb
    · refine ⟨m, m1, by rw [upd_ne _ _ sb, upd_ne _ _ sa, m2], fun e he => ?_⟩
      rw [m3 e he, old e]
      constructor
      · exact Or.inl
      · rintro (q | ⟨q1, q2⟩ | ⟨q1, q2⟩)
        · exact q
        · exact absurd q1.symm sa
        · exact absurd q1.symm sb
theorem msk_no {n a b : Nat} {f g : Nat → Nat} {ok ok2 : Nat → Prop} {R : Nat → Int32} (h : mskP n f g ok R) (h1 : ∀ i, i < n → (ok2 i ↔ ok i)) (h2 : ¬ ok2 n) : mskP (n + 1) (fun i => if i = n then a else f i) (fun i => if i = n then b else g i) ok2 R := by
  intro s hs
  obtain ⟨m, m1, m2, m3⟩ := h s hs
  refine ⟨m, m1, m2, fun e he => ?_⟩
  rw [m3 e he]
  constructor
  · rintro ⟨i, i1, i2, i3⟩
    exact ⟨i, by omega, (h1 i i1).mpr i2, by dsimp only; rw [if_neg (by omega), if_neg (by omega)]; exact i3⟩
  · rintro ⟨i, i1, i2, i3⟩
    by_cases q : i = n
    · subst q; exact absurd i2 h2
    · dsimp only at i3
      rw [if_neg q, if_neg q] at i3
      exact ⟨i, by omega, (h1 i (by omega)).mp i2, i3⟩
theorem put_P {I J I1 J1 : MI} {n a b c : Nat} {f g o : Nat → Nat} (hn : n < 12) (ha : a < 10) (hb : b < 10) (hab : a ≠ b) (hc2 : c < 2) (hI : I1 29 3 = nn (n + 1)) (hJ : J1 207 49 = nn (n + 1)) (hC : I1 30 = upd (upd (upd (I 30) (3 * n) (nn a)) (3 * n + 1) (nn b)) (3 * n + 2) (nn c))
    (h235 : J1 235 = if c = 1 then upd (upd (J 235) a (J 235 a ||| (1 <<< (nn b &&& 31)))) b (J 235 b ||| (1 <<< (nn a &&& 31))) else J 235)
    (h236 : J1 236 = if c = 0 then upd (upd (J 236) a (J 236 a ||| (1 <<< (nn b &&& 31)))) b (J 236 b ||| (1 <<< (nn a &&& 31))) else J 236)
    (h1 : ∀ i, i < n → f i < 10 ∧ g i < 10 ∧ f i ≠ g i ∧ o i < 2 ∧ I 30 (3 * i) = nn (f i) ∧ I 30 (3 * i + 1) = nn (g i) ∧ I 30 (3 * i + 2) = nn (o i)) (k5 : mskP n f g (fun i => o i = 1) (J 235)) (k6 : mskP n f g (fun i => o i = 0) (J 236)) : bPai I1 29 J1 := by
  refine ⟨n + 1, by omega, hI, hJ, fun i => if i = n then a else f i, fun i => if i = n then b else g i, fun i => if i = n then c else o i, fun i hi => ?_, ?_, ?_⟩
  · show (if i = n then a else f i) < 10 ∧ (if i = n then b else g i) < 10 ∧ (if i = n then a else f i) ≠ (if i = n then b else g i) ∧ (if i = n then c else o i) < 2 ∧ I1 30 (3 * i) = nn (if i = n then a else f i) ∧ I1 30 (3 * i + 1) = nn (if i = n then b else g i) ∧ I1 30 (3 * i + 2) = nn (if i = n then c else o i)
    rw [hC]
    by_cases h : i = n
    · subst h
      simp only [if_true]
      exact ⟨ha, hb, hab, hc2, by rw [upd_ne _ _ (by omega), upd_ne _ _ (by omega), upd_eq], by rw [upd_ne _ _ (by omega), upd_eq], by rw [upd_eq]⟩
    · simp only [if_neg h]
      rw [upd_ne _ _ (by omega), upd_ne _ _ (by omega), upd_ne _ _ (by omega), upd_ne _ _ (by omega), upd_ne _ _ (by omega), upd_ne _ _ (by omega), upd_ne _ _ (by omega), upd_ne _ _ (by omega), upd_ne _ _ (by omega)]
      exact h1 i (by omega)
  · have e : ∀ i, i < n → ((if i = n then c else o i) = 1 ↔ o i = 1) := fun i hi => by rw [if_neg (by omega)]
    rw [h235]
    by_cases hc : c = 1
    · rw [if_pos hc]
      exact msk_put k5 ha hb hab e (by dsimp only; rw [if_pos rfl]; exact hc)
    · rw [if_neg hc]
      exact msk_no k5 e (by dsimp only; rw [if_pos rfl]; exact hc)
  · have e : ∀ i, i < n → ((if i = n then c else o i) = 0 ↔ o i = 0) := fun i hi => by rw [if_neg (by omega)]
    rw [h236]
    by_cases hc : c = 0
    · rw [if_pos hc]
      exact msk_put k6 ha hb hab e (by dsimp only; rw [if_pos rfl]; exact hc)
    · rw [if_neg hc]
      exact msk_no k6 e (by dsimp only; rw [if_pos rfl]; exact hc)
theorem wip_P {J : MI} : ∃ J1, K_R_pair_18 0 J = some (0, J1) ∧ (∀ c, c ≠ 235 → c ≠ 236 → J1 c = J c) ∧ (∀ s, s < 10 → J1 235 s = 0) ∧ ∀ s, s < 10 → J1 236 s = 0 := by
  have h := ok_lp (body := B_R_pair_18) (Q := fun x K => x = 0 ∧ (∀ c, c ≠ 235 → c ≠ 236 → K c = J c) ∧ (∀ s, s < 10 → K 235 s = 0) ∧ ∀ s, s < 10 → K 236 s = 0) (fun k x K => x = nn k ∧ (∀ c, c ≠ 235 → c ≠ 236 → K c = J c) ∧ (∀ s, s < k → K 235 s = 0) ∧ ∀ s, s < k → K 236 s = 0) 10
    (fun k x K hk hi => by
      obtain ⟨rfl, q1, q2, q3⟩ := hi
      unfold B_R_pair_18
      have l1 : nn k < 10 := (nn_lt (j := k) (k := 10) (by omega) (by decide)).mpr hk
      have i1 : inR (nn k) 10 = true := inR_nn hk (by omega)
      have t1 : (nn k).toNatClampNeg = k := nn_nat (by omega)
      simp (decide := true) only [ok_ite, if_pos l1, ok_bn, ok_sr, ok_rt, i1, t1, true_and, nn_s]
      refine ⟨fun c h1 h2 => ?_, fun s hs => ?_, fun s hs => ?_⟩
      · rw [bup_ne _ _ h2, bup_ne _ _ h1]; exact q1 c h1 h2
      · rw [bup_ne _ _ (by decide), bup_eq]
        by_cases e : s = k
        · subst e; rw [upd_eq]
        · rw [upd_ne _ _ e]; exact q2 s (by omega)
      · rw [bup_eq, bup_ne _ _ (by decide)]
        by_cases e : s = k
        · subst e; rw [upd_eq]
        · rw [upd_ne _ _ e]; exact q3 s (by omega))
    (fun x K hi => by
      obtain ⟨rfl, q⟩ := hi
      unfold B_R_pair_18
      have l1 : ¬ nn 10 < 10 := by decide
      simp only [ok_ite, if_neg l1, ok_rt, true_and]
      exact q) FU 0 J (by rw [FU_eq]; decide) ⟨rfl, fun _ _ _ => rfl, fun s hs => absurd hs (by omega), fun s hs => absurd hs (by omega)⟩
  obtain ⟨x, K, h1, rfl, h2⟩ := h
  exact ⟨K, h1, h2⟩
theorem c_pair (x y z : Int32) : Call (F_A_pair x y z) (F_R_pair x y z) := by
  refine call_of fun I J hr => ?_
  obtain ⟨⟨-, -, -, -, -, -, -, k8, -, -, -, -, -, -, -, -⟩, -, -, -, kc⟩ := id hr
  obtain ⟨n, hn, hI, hJ, f, g, o, hc, m1, m2⟩ := k8
  obtain ⟨tw, tr⟩ := con_at kc (t := 29) (w := 3) (r := 12) (by decide)
  unfold F_A_pair F_R_pair
  by_cases h1 : x = -1
  · obtain ⟨J1, w1, w2, w3, w4⟩ := wip_P (J := bup (bup J 207 (upd (J 207) 0 0)) 207 (upd ((bup J 207 (upd (J 207) 0 0)) 207) 49 0))
    simp (decide := true) only [ok_bn, ok_wr, ok_ite, if_pos h1, ok_wipe, ok_rt, ok_eq w1, true_and]
    have uj : UJ [235, 236] [0, 49] J J1 := by
      refine ⟨fun c hc => ?_, fun k hk => ?_⟩
      · have n1 : c ≠ 207 := by intro e; rw [e] at hc; cases hc
        have n2 : c ≠ 235 := by intro e; rw [e] at hc; cases hc
        have n3 : c ≠ 236 := by intro e; rw [e] at hc; cases hc
        rw [w2 c n2 n3, bup_ne _ _ n1, bup_ne _ _ n1]
      · have n1 : k ≠ 0 := by intro e; rw [e] at hk; cases hk
        have n2 : k ≠ 49 := by intro e; rw [e] at hk; cases hk
        rw [w2 207 (by decide) (by decide), bup_eq, upd_ne _ _ n2, bup_eq, upd_ne _ _ n1]
    refine rl_8 [29] [235, 236] [0, 49] hr (ui_bup (ui_refl _ _) rfl) uj (ut_sz (ut_refl _)) rfl rfl rfl ⟨0, by decide, rfl, ?_, fun _ => 0, fun _ => 0, fun _ => 0, fun i hi => absurd hi (by omega), fun s hs => ⟨0, by decide, w3 s hs, fun b hb => ?_⟩, fun s hs => ⟨0, by decide, w4 s hs, fun b hb => ?_⟩⟩ rfl
    · rw [w2 207 (by decide) (by decide), bup_eq, upd_eq]; rfl
    · rw [Nat.zero_testBit]
      constructor
      · intro h; cases h
      · rintro ⟨i, hi, _⟩; omega
    · rw [Nat.zero_testBit]
      constructor
      · intro h; cases h
      · rintro ⟨i, hi, _⟩; omega
  · rcases rng (v := x) 0 9 (by decide) (by decide) with ⟨a, -, a2, rfl⟩ | out
    · have q := rng_in (a := 0) (b := 9) (by decide) (Nat.zero_le a) a2
      have wA : F_A_within (nn a) 0 9 = rt 1 := wi_in q.1 q.2
      have wR : F_R_isIn (nn a) 0 9 = rt 1 := ri_in q.1 q.2
      rcases rng (v := y) 0 9 (by decide) (by decide) with ⟨b, -, b2, rfl⟩ | out2
      · have q2 := rng_in (a := 0) (b := 9) (by decide) (Nat.zero_le b) b2
        have wA2 : F_A_within (nn b) 0 9 = rt 1 := wi_in q2.1 q2.2
        have wR2 : F_R_isIn (nn b) 0 9 = rt 1 := ri_in q2.1 q2.2
        by_cases hab : a = b
        · have e : (nn a = nn b) := by rw [hab]
          simp (decide := true) only [ok_bn, ok_wr, ok_ite, if_neg h1, ok_rt, wA, wR, wA2, wR2, if_pos e, if_true, if_false, true_and]
          exact rl_told hr
        · have e : ¬ (nn a = nn b) := nn_ne (by omega) (by omega) hab
          have ip : inR (nn a) 10 = true := inR_nn (by omega) (by omega)
          have tp : (nn a).toNatClampNeg = a := nn_nat (by omega)
          have ir : inR (nn b) 10 = true := inR_nn (by omega) (by omega)
          have tr2 : (nn b).toNatClampNeg = b := nn_nat (by omega)
          by_cases hf : n = 12
          · subst hf
            have e6 : J 207 49 = 12 := hJ
            by_cases hz : z = 0
            · simp (decide := true) only [ok_bn, ok_wr, ok_rd, ok_ite, if_neg h1, if_pos hz, ok_rt, wA, wR, wA2, wR2, if_neg e, ok_putF hI tr (by decide) (by decide), e6, bup_eq, upd_ne, if_true, if_false, true_and]
              exact rl_told hr
            · simp (decide := true) only [ok_bn, ok_wr, ok_rd, ok_ite, if_neg h1, if_neg hz, ok_rt, wA, wR, wA2, wR2, if_neg e, ok_putF hI tr (by decide) (by decide), e6, bup_eq, upd_ne, if_true, if_false, true_and]
              exact rl_told hr
          · have hlt : n < 12 := by omega
            have e6 : ¬ nn n = 12 := nn_ne (by omega) (by decide) hf
            by_cases hz : z = 0
            · simp (decide := true) only [ok_bn, ok_wr, ok_rd, ok_ite, ok_sr, ok_ld, if_neg h1, if_pos hz, ok_rt, wA, wR, wA2, wR2, if_neg e, ok_put tw hI tr hlt rfl (by decide) (by decide) (by decide), hJ, e6, ip, tp, ir, tr2, bup_eq, bup_ne, upd_eq, upd_ne, if_true, if_false, true_and]
              refine ⟨nn_add n 1, rl_8 [29, 30] [235, 236] [0, 49] hr (ui_bup (ui_bup (ui_refl _ _) rfl) rfl) ?_ (ut_sz (ut_bup (ut_refl _) rfl)) rfl rfl rfl (put_P (a := a) (b := b) (c := 0) hlt (by omega) (by omega) hab (by decide) ?_ ?_ ?_ ?_ ?_ hc m1 m2) rfl⟩
              · exact uj_fld (uj_bup (uj_bup (uj_fld (uj_refl _ _ _) rfl) rfl (by decide)) rfl (by decide)) rfl
              · rw [bup_eq, upd_eq]
              · rw [bup_eq, upd_eq]; exact nn_add n 1
              · rw [bup_ne _ _ (by decide), bup_eq, lnF3]; rfl
              · simp (decide := true) only [bup_eq, bup_ne, if_false]
              · simp (decide := true) only [bup_eq, bup_ne, if_true]
                rw [upd_ne _ _ (Ne.symm hab)]
            · simp (decide := true) only [ok_bn, ok_wr, ok_rd, ok_ite, ok_sr, ok_ld, if_neg h1, if_neg hz, ok_rt, wA, wR, wA2, wR2, if_neg e, ok_put tw hI tr hlt rfl (by decide) (by decide) (by decide), hJ, e6, ip, tp, ir, tr2, bup_eq, bup_ne, upd_eq, upd_ne, if_true, if_false, true_and]
              refine ⟨nn_add n 1, rl_8 [29, 30] [235, 236] [0, 49] hr (ui_bup (ui_bup (ui_refl _ _) rfl) rfl) ?_ (ut_sz (ut_bup (ut_refl _) rfl)) rfl rfl rfl (put_P (a := a) (b := b) (c := 1) hlt (by omega) (by omega) hab (by decide) ?_ ?_ ?_ ?_ ?_ hc m1 m2) rfl⟩
              · exact uj_fld (uj_bup (uj_bup (uj_fld (uj_refl _ _ _) rfl) rfl (by decide)) rfl (by decide)) rfl
              · rw [bup_eq, upd_eq]
              · rw [bup_eq, upd_eq]; exact nn_add n 1
              · rw [bup_ne _ _ (by decide), bup_eq, lnF3]; rfl
              · simp (decide := true) only [bup_eq, bup_ne, if_true]
                rw [upd_ne _ _ (Ne.symm hab)]
              · simp (decide := true) only [bup_eq, bup_ne, if_false]
      · have wA2 : F_A_within y 0 9 = rt 0 := wi_out out2
        have wR2 : F_R_isIn y 0 9 = rt 0 := ri_out out2
        simp (decide := true) only [ok_bn, ok_wr, ok_ite, if_neg h1, ok_rt, wA, wR, wA2, wR2, if_true, if_false, true_and]
        exact rl_told hr
    · have wA : F_A_within x 0 9 = rt 0 := wi_out out
      have wR : F_R_isIn x 0 9 = rt 0 := ri_out out
      simp (decide := true) only [ok_bn, ok_wr, ok_ite, if_neg h1, ok_rt, wA, wR, if_true, if_false, true_and]
      exact rl_told hr
end SC6
