/-! names: the call -/
section NO99
theorem tb_1023 {a : Nat} (ha : a < 10) : (1023 : Nat).testBit a = true := by
  have : (1023 : Nat) = 2 ^ 10 - 1 := by decide
  rw [this, Nat.testBit_two_pow_sub_one, decide_eq_true ha]
theorem val_col {L f g o : Nat → Nat} {n k : Nat} {v : Int32} (hc : ∀ i, i < n → f i < 10 ∧ g i < 10) (hv : VAL (OK1 L f g o n) 1023 1023 v) (h1 : COL L f g o n k) (h2 : ∀ j, COL L f g o n j → k ≤ j) : v = nn k := by
  have mk : ∀ j, CV (OK1 L f g o n) 1023 1023 j → COL L f g o n j := fun j q => by
    obtain ⟨-, c, c1, c2, c3⟩ := cv_col hc _ _ _ q
    exact ⟨c, fun y hy => c1 y hy (tb_1023 hy), fun a b ha hb e => c2 a b ha hb (tb_1023 ha) (tb_1023 hb) e, fun i hi ho => c3 i hi ho (tb_1023 (hc i hi).1) (tb_1023 (hc i hi).2)⟩
  obtain ⟨j, j1, j2⟩ := col_cv hc h1
  rcases hv with ⟨m, -, rfl, m1, m2⟩ | ⟨-, m1⟩
  · have a1 := h2 m (mk m m1)
    have a2 := m2 j j2
    have e : m = k := by omega
    rw [e]
  · exact absurd j2 (m1 j)
theorem c_names (x : Int32) : Call (F_A_names x) (F_R_names x) := by
  refine call_of fun I J hr => ?_
  have told := rl_told hr
  unfold F_A_names F_R_names
  simp only [ok_bn, ok_wr]
  generalize hK : bup J 207 (upd (J 207) 0 0) = K at *
  obtain ⟨⟨-, -, -, -, -, -, -, k8, -⟩, -, -, -, kc⟩ := id told
  obtain ⟨n, hn, c1, c2, f, g, o, hs, m5, m6⟩ := k8
  have w29 : I 29 0 = nn 3 := (con_at kc (t := 29) (w := 3) (r := 12) (by decide)).1
  have h29 : I 29 3 = nn n := c1
  have hs2 : ∀ i, i < n → f i < 10 ∧ g i < 10 ∧ f i ≠ g i ∧ o i < 2 ∧ I 30 (3 * i) = nn (f i) ∧ I 30 (3 * i + 1) = nn (g i) ∧ I 30 (3 * i + 2) = nn (o i) := hs
  have hc : ∀ i, i < n → f i < 10 ∧ g i < 10 := fun i hi => ⟨(hs i hi).1, (hs i hi).2.1⟩
  have hL : LOK (LL f g o n) := LL_ok hc n (Nat.le_refl _)
  have hG : ∀ K2 : MI, (∀ a, a ≠ 237 → K2 a = K a) → GRP (LL f g o n) K2 := fun K2 h a ha => grp_R ha hc fun s hs => by rw [h 235 (by decide)]; exact m5 s hs
  have fin : ∀ L M : MI, (∀ a, a ≠ 195 → a ≠ 196 → a ≠ 197 → a ≠ 198 → L a = I a) → (∀ a, a ≠ 237 → M a = K a) → Rl L M := fun L M q2 q4 => by
    refine rl_none [195, 196, 197, 198] [237] [0] hr (fun a ha => ?_) ⟨fun a ha => ?_, fun k hk => ?_⟩ (fun t ht => ?_) ?_ ?_ ?_ rfl
    · have n0 : a ≠ 195 := fun e => by subst e; cases ha
      have n1 : a ≠ 196 := fun e => by subst e; cases ha
      have n2 : a ≠ 197 := fun e => by subst e; cases ha
      have n3 : a ≠ 198 := fun e => by subst e; cases ha
      exact q2 a n0 n1 n2 n3
    · have n1 : a ≠ 207 := fun e => by subst e; cases ha
      have n2 : a ≠ 237 := fun e => by subst e; cases ha
      rw [q4 a n2, ← hK, bup_ne _ _ n1]
    · have n1 : k ≠ 0 := fun e => by subst e; cases hk
      rw [q4 207 (by decide), ← hK, bup_eq, upd_ne _ _ n1]
    · have tb : ∀ t, t ∈ tabL → t < 191 := by decide
      have := tb t (memN_iff.mp ht)
      rw [q2 t (by omega) (by omega) (by omega) (by omega)]; exact ⟨rfl, rfl⟩
    · rw [q2 0 (by decide) (by decide) (by decide) (by decide)]
    · rw [q2 0 (by decide) (by decide) (by decide) (by decide)]
    · rw [q2 0 (by decide) (by decide) (by decide) (by decide)]
  have i0 : F_R_isIn 0 0 2 = rt 1 := ri_in (by decide) (by decide)
  have i1 : F_R_isIn 1 0 2 = rt 1 := ri_in (by decide) (by decide)
  have i2 : F_R_isIn 2 0 2 = rt 1 := ri_in (by decide) (by decide)
  have gR := groups_R hL (hG K fun _ _ => rfl)
  by_cases x0 : x = 0
  · subst x0
    obtain ⟨R, g1, -⟩ := groups_A hn w29 h29 hs2
    simp only [if_true, ok_bn, ok_eq g1, ok_rt, i0, if_neg one_ne, ok_eq gR, true_and]
    exact fin _ _ (fun a _ n1 _ _ => bup_ne _ _ n1) fun _ _ => rfl
  · by_cases x1 : x = 1
    · subst x1
      have d1 : ¬ (1 : Int32) = 2 := by decide
      obtain ⟨e, e1, e2⟩ := canbe_R (x1 := 1) (hG K fun _ _ => rfl) hc m6
      simp only [if_neg x0, if_true, ok_bn]
      refine ok_mono (canbe_A hn w29 h29 hs2) fun v L q => ?_
      obtain ⟨q1, -, q2⟩ := q
      have fi := fin L K (fun a _ n1 n2 _ => q1 a n1 n2) fun _ _ => rfl
      unfold K_R_names_30 K_R_names_59
      simp only [i1, ok_rt, if_neg one_ne, ok_bn, ok_eq e1, if_true]
      rcases q2 with ⟨rfl, q2, -⟩ | ⟨rfl, q2⟩
      · have ee : e = 1 := by
          rcases e2 with ⟨h, -⟩ | ⟨-, h⟩
          · exact h
          · exact absurd q2 h
        subst ee
        simp only [if_neg one_ne, ok_rt, true_and]
        exact fi
      · have ee : e = 0 := by
          rcases e2 with ⟨-, h⟩ | ⟨h, -⟩
          · exact absurd h q2
          · exact h
        subst ee
        simp only [if_true, ok_rt, true_and]
        exact fi
    · by_cases x2 : x = 2
      · subst x2
        obtain ⟨e, e1, e2⟩ := canbe_R (x1 := 2) (hG K fun _ _ => rfl) hc m6
        obtain ⟨w, M, r1, r2, r3⟩ := fewN_R hG hc m6
        simp only [if_neg x0, if_neg x1, if_true, ok_bn]
        refine ok_mono (named_A hn w29 h29 hs2) fun v L q => ?_
        obtain ⟨q1, q2⟩ := q
        unfold K_R_names_30 K_R_names_59
        simp only [i2, ok_rt, if_neg one_ne, ok_bn, ok_eq e1, if_neg x1, if_neg x0]
        rcases q2 with ⟨rfl, q2⟩ | ⟨q2, k, -, -, rfl, q3, q4⟩
        · have ee : e = 0 := by
            rcases e2 with ⟨-, h⟩ | ⟨h, -⟩
            · exact absurd h q2
            · exact h
          subst ee
          simp only [if_true, ok_rt, true_and]
          exact fin L K q1 fun _ _ => rfl
        · have ee : e = 1 := by
            rcases e2 with ⟨h, -⟩ | ⟨-, h⟩
            · exact h
            · exact absurd q2 h
          subst ee
          simp only [if_neg one_ne, ok_bn, ok_eq r1, ok_rt]
          exact ⟨val_col hc r3 q3 q4, fin L M q1 r2⟩
      · have io : F_R_isIn x 0 2 = rt 0 := by
          rcases rng (v := x) 0 2 (by decide) (by decide) with ⟨a, -, ha, rfl⟩ | out
          · exfalso
            have : a = 0 ∨ a = 1 ∨ a = 2 := by omega
            rcases this with rfl | rfl | rfl
            · exact x0 rfl
            · exact x1 rfl
            · exact x2 rfl
          · exact ri_out out
        simp only [if_neg x0, if_neg x1, if_neg x2, ok_rt, ok_bn, io, if_true, true_and]
        exact told
end NO99
