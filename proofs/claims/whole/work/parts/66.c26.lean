/-! undo, put together -/
section SC26
theorem c_undo : Call F_A_undo F_R_undo := by
  refine call_of fun I J hr => ?_
  obtain ⟨⟨k1, -, -, -, k5, -, -, -, -, -, -, -, -, -, -, -⟩, -, kp, -, -⟩ := id hr
  obtain ⟨n, c, hn, hc, h8, h9, hJ3, hp⟩ := kp
  unfold F_A_undo F_R_undo
  cases c with
  | zero =>
    have e9 : I 0 9 = 0 := h9
    have e3 : J 207 3 = 0 := hJ3
    simp (decide := true) only [ok_bn, ok_wr, ok_rd, ok_ite, ok_gdZ, ok_rt, e9, e3, bup_eq, upd_ne, if_true, true_and]
    exact rl_told hr
  | succ c =>
    have e9 : ¬ nn (c + 1) = 0 := nn_ne (k := 0) (by omega) (by decide) (by omega)
    obtain ⟨p1, p2, p3⟩ := pre_6 n hn
    have dv : ∀ {β : Type} (m : M β), dvI (6 : Int32) m = m := fun m => dvI_ne m (by decide)
    have e10 : nn (c + 1) - 1 = nn c := nn_sub (j := c + 1) (k := 1) (by omega)
    obtain ⟨b1, b2, np, na, b3⟩ := hp c (by omega)
    have hm : (n + 6 - (c + 1) + c) % 6 = (n + 5) % 6 := by omega
    rw [hm] at b1 b2 b3
    have hlt : (n + 5) % 6 < 6 := Nat.mod_lt _ (by decide)
    obtain ⟨h, hR, hh⟩ := back_R (J := bup (bup J 207 (upd (J 207) 0 0)) 207 (upd ((bup J 207 (upd (J 207) 0 0)) 207) 3 (nn c))) (c := c) (by omega) (by rw [bup_eq, upd_eq])
    generalize hI2 : bup (bup I 0 (upd (I 0) 8 (nn ((n + 5) % 6)))) 0 (upd ((bup I 0 (upd (I 0) 8 (nn ((n + 5) % 6)))) 0) 9 (nn c)) = I2
    have q0 : ∀ a, a ≠ 0 → I2 a = I a := fun a ha => by rw [← hI2, bup_ne _ _ ha, bup_ne _ _ ha]
    have q8 : I2 0 8 = nn ((n + 5) % 6) := by rw [← hI2, bup_eq, upd_ne _ _ (by decide), bup_eq, upd_eq]
    have q9 : I2 0 9 = nn c := by rw [← hI2, bup_eq, upd_eq]
    have q2 : I2 0 2 = I 0 2 := by rw [← hI2, bup_eq, upd_ne _ _ (by decide), bup_eq, upd_ne _ _ (by decide)]
    have hA := become (I := I2) (r0 := 2) (r1 := 124 + 11 * ((n + 5) % 6)) (by omega)
    have o0 : ∀ a, a ≠ 0 → (a < 2 ∨ 12 < a) → bcS I2 2 (124 + 11 * ((n + 5) % 6)) 10 a = I a := fun a ha h => (bcS_o (by omega)).trans (q0 a ha)
    have o1 : bcS I2 2 (124 + 11 * ((n + 5) % 6)) 10 0 = I2 0 := bcS_o (by omega)
    have hw : ∀ w, w = 124 + 11 * ((n + 5) % 6) → ∀ q, w ≤ q → q < w + 11 → I2 q = I q := fun w hw q h1 h2 => q0 q (by omega)
    have w1 : rW I2 (124 + 11 * ((n + 5) % 6)) h := by
      have := k_rW (hw _ rfl) b1
      obtain ⟨a1, a2, a3, a4, a5, a6, a7, a8, a9, a10, a11, a12, a13⟩ := this
      have g : ∀ k, k < 95 → h k = J 209 (95 * c + k) := fun k hk => by
        rw [hh k hk]
        rw [bup_ne _ _ (by decide), bup_ne _ _ (by decide)]
      exact ⟨(g _ (by decide)).trans a1, (g _ (by decide)).trans a2, (g _ (by decide)).trans a3, (g _ (by decide)).trans a4, (g _ (by decide)).trans a5, (g _ (by decide)).trans a6, (g _ (by decide)).trans a7, fun k hk => (g _ (by omega)).trans (a8 k hk), fun k hk => (g _ (by omega)).trans (a9 k hk), fun k hk => (g _ (by omega)).trans (a10 k hk), fun k hk => (g _ (by omega)).trans (a11 k hk), fun k hk => (g _ (by omega)).trans (a12 k hk), fun k hk => (g _ (by omega)).trans (a13 k hk)⟩
    have w2 := k_rS (hw _ rfl) b2
    have w3 := k_bW (hw _ rfl) b3
    simp (decide := true) only [ok_bn, ok_wr, ok_rd, ok_ite, ok_gd, ok_gdZ, ok_rt, h8, h9, hJ3, bup_eq, upd_eq, upd_ne, if_neg e9, dv, p1, e10]
    simp only [bup_eq, upd_eq, upd_ne, bup_bup] at hI2 hR ⊢
    rw [p3, hI2, ok_eq hA, ok_eq hR]
    refine ⟨p2, trivial, rfl, ?_⟩
    have nl : ∀ c, c < 13 → memN c (0 :: List.range' 2 11) = false → c = 1 := by decide
    have nt : ∀ t, t < 13 → memN t tabL = false := by decide
    have hu : UI (0 :: List.range' 2 11) I (bcS I2 2 (124 + 11 * ((n + 5) % 6)) 10) := fun a ha => by
      rcases Nat.lt_or_ge a 13 with h1 | h1
      · have := nl a h1 ha; exact o0 a (by omega) (by omega)
      · exact o0 a (by omega) (by omega)
    have hv : UJ [208] [0, 3] J (bup (bup J 207 (upd (upd (J 207) 0 0) 3 (nn c))) 208 h) := ⟨fun a ha => by
      have n1 : a ≠ 207 := fun e => by subst e; exact absurd ha (by decide)
      have n2 : a ≠ 208 := fun e => by subst e; exact absurd ha (by decide)
      rw [bup_ne _ _ n2, bup_ne _ _ n1], fun k hk => by
      have n1 : k ≠ 0 := fun e => by subst e; exact absurd hk (by decide)
      have n2 : k ≠ 3 := fun e => by subst e; exact absurd hk (by decide)
      rw [bup_ne _ _ (by decide), bup_eq, upd_ne _ _ n2, upd_ne _ _ n1]⟩
    have ht : UT I (bcS I2 2 (124 + 11 * ((n + 5) % 6)) 10) := fun t ht => by
      rcases Nat.lt_or_ge t 13 with h1 | h1
      · rw [nt t h1] at ht; cases ht
      · rw [o0 t (by omega) (by omega)]; exact ⟨rfl, rfl⟩
    have j2 : ∀ k, k ≠ 0 → k ≠ 3 → (bup (bup J 207 (upd (upd (J 207) 0 0) 3 (nn c))) 208 h) 207 k = J 207 k := fun k n1 n2 => by
      rw [bup_ne _ _ (by decide), bup_eq, upd_ne _ _ n2, upd_ne _ _ n1]
    have j3 : ∀ a, a ≠ 207 → a ≠ 208 → (bup (bup J 207 (upd (upd (J 207) 0 0) 3 (nn c))) 208 h) a = J a := fun a n1 n2 => by
      rw [bup_ne _ _ n2, bup_ne _ _ n1]
    have jw : bWor (bcS I2 2 (124 + 11 * ((n + 5) % 6)) 10) 2 (bup (bup J 207 (upd (upd (J 207) 0 0) 3 (nn c))) 208 h) := by
      unfold bWor
      rw [j2 6 (by decide) (by decide), j2 7 (by decide) (by decide), j3 211 (by decide) (by decide), j3 212 (by decide) (by decide), j3 213 (by decide) (by decide), j3 214 (by decide) (by decide), bup_eq]
      exact ⟨rW_bc w1, rS_bc w2, np, na, bW_bc w3⟩
    have jd : bDia (bcS I2 2 (124 + 11 * ((n + 5) % 6)) 10) 23 2 (bup (bup J 207 (upd (upd (J 207) 0 0) 3 (nn c))) 208 h) := by
      refine k_Dia (I := I) (J := J) (fun a h1 h2 => o0 a (by omega) (by omega)) ?_ ?_ (j2 38 (by decide) (by decide)) (j3 227 (by decide) (by decide)) k5
      · rw [bcS_f (k := 7) (by decide)]; exact w2.1.symm.trans k1.2.1.1
      · rw [bcS_f (k := 8) (by decide)]; exact w2.2.1.symm.trans k1.2.1.2.1
    have jp : bPst (bcS I2 2 (124 + 11 * ((n + 5) % 6)) 10) (bup (bup J 207 (upd (upd (J 207) 0 0) 3 (nn c))) 208 h) := by
      refine ⟨(n + 5) % 6, c, hlt, by omega, by rw [o1]; exact q8, by rw [o1]; exact q9, by rw [bup_ne _ _ (by decide), bup_eq, upd_eq], fun r hr2 => ?_⟩
      obtain ⟨c1, c2, np2, na2, c3⟩ := hp r (by omega)
      have e : ((n + 5) % 6 + 6 - c + r) % 6 = (n + 6 - (c + 1) + r) % 6 := by omega
      have hlt2 : (n + 6 - (c + 1) + r) % 6 < 6 := Nat.mod_lt _ (by decide)
      have hq : ∀ q, 124 + 11 * ((n + 6 - (c + 1) + r) % 6) ≤ q → q < 124 + 11 * ((n + 6 - (c + 1) + r) % 6) + 11 → bcS I2 2 (124 + 11 * ((n + 5) % 6)) 10 q = I q := fun q h1 h2 => o0 q (by omega) (by omega)
      rw [e, j2 6 (by decide) (by decide), j2 7 (by decide) (by decide), j3 211 (by decide) (by decide), j3 212 (by decide) (by decide), j3 213 (by decide) (by decide), j3 214 (by decide) (by decide), j3 209 (by decide) (by decide)]
      exact ⟨k_rW hq c1, k_rS hq c2, np2, na2, k_bW hq c3⟩
    exact rl_of hr hu hv ht (by rw [o1]; exact q2) (Or.inr jw) (Or.inl rfl) (Or.inl rfl) (Or.inl rfl) (Or.inr jd) (Or.inl rfl) (Or.inl rfl) (Or.inl rfl) (Or.inl rfl) (Or.inl rfl) (Or.inl rfl) (Or.inl rfl) (Or.inl rfl) (Or.inl rfl) (Or.inl rfl) (Or.inl rfl) (Or.inl rfl) (Or.inr jp) (Or.inl rfl) (Or.inl rfl)
end SC26
