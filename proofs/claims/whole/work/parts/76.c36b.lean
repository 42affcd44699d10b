/-! the past is kept by both, together -/
section SC36b
theorem tab_lo : ∀ t, t ∈ tabL → t < 124 ∧ t ≠ 0 := by decide
theorem h_keep {I J : MI} (hr : Rl I J) : Ok F_A_keepPast I fun _ I1 => Ok F_R_keepsAhead J fun _ J1 => Rl I1 J1 ∧ (∀ a, 0 < a → a < 124 → I1 a = I a) ∧ J1 208 = J 208 ∧ ∀ k, k ≠ 3 → J1 207 k = J 207 k := by
  obtain ⟨⟨k1, -⟩, -, kp, -, -⟩ := id hr
  obtain ⟨w1, w2, np0, na0, w3⟩ := k1
  obtain ⟨n, c, hn, hc, h8, h9, hJ3, hp⟩ := kp
  obtain ⟨H, e2, q1, q2⟩ := keep_R hc hJ3
  rw [ok_eq (keep_A hn hc h8 h9), ok_eq e2]
  have o1 : ∀ a, a ≠ 0 → (a < 124 + 11 * n ∨ 124 + 11 * n + 10 < a) → (bup (bcS I (124 + 11 * n) 2 10) 0 (upd (upd (I 0) 8 (nn ((n + 1) % 6))) 9 (nn (min (c + 1) 6)))) a = I a := fun a h0 h1 => by
    rw [bup_ne _ _ h0, bcS_o h1]
  have o2 : ∀ a, a ≠ 0 → (bup (bcS I (124 + 11 * n) 2 10) 0 (upd (upd (I 0) 8 (nn ((n + 1) % 6))) 9 (nn (min (c + 1) 6)))) a = bcS I (124 + 11 * n) 2 10 a := fun a h0 => bup_ne _ _ h0
  have z8 : (bup (bcS I (124 + 11 * n) 2 10) 0 (upd (upd (I 0) 8 (nn ((n + 1) % 6))) 9 (nn (min (c + 1) 6)))) 0 8 = nn ((n + 1) % 6) := by rw [bup_eq, upd_ne _ _ (by decide), upd_eq]
  have z9 : (bup (bcS I (124 + 11 * n) 2 10) 0 (upd (upd (I 0) 8 (nn ((n + 1) % 6))) 9 (nn (min (c + 1) 6)))) 0 9 = nn (min (c + 1) 6) := by rw [bup_eq, upd_eq]
  have z2 : (bup (bcS I (124 + 11 * n) 2 10) 0 (upd (upd (I 0) 8 (nn ((n + 1) % 6))) 9 (nn (min (c + 1) 6)))) 0 2 = I 0 2 := by rw [bup_eq, upd_ne _ _ (by decide), upd_ne _ _ (by decide)]
  generalize bup (bcS I (124 + 11 * n) 2 10) 0 (upd (upd (I 0) 8 (nn ((n + 1) % 6))) 9 (nn (min (c + 1) 6))) = I1 at *
  have j3 : (bup (bup J 209 H) 207 (upd (J 207) 3 (nn (min (c + 1) 6)))) 207 3 = nn (min (c + 1) 6) := by rw [bup_eq, upd_eq]
  have jk : ∀ k, k ≠ 3 → (bup (bup J 209 H) 207 (upd (J 207) 3 (nn (min (c + 1) 6)))) 207 k = J 207 k := fun k hk => by rw [bup_eq, upd_ne _ _ hk]
  have j9 : (bup (bup J 209 H) 207 (upd (J 207) 3 (nn (min (c + 1) 6)))) 209 = H := by rw [bup_ne _ _ (by decide), bup_eq]
  have ja : ∀ a, a ≠ 207 → a ≠ 209 → (bup (bup J 209 H) 207 (upd (J 207) 3 (nn (min (c + 1) 6)))) a = J a := fun a h1 h2 => by rw [bup_ne _ _ h1, bup_ne _ _ h2]
  generalize bup (bup J 209 H) 207 (upd (J 207) 3 (nn (min (c + 1) 6))) = J1 at *
  have hu : UI (0 :: List.range' 124 66) I I1 := fun a ha => by
    have n0 : a ≠ 0 := fun e => by subst e; cases ha
    rcases Nat.lt_or_ge a 124 with h1 | h1
    · exact o1 a n0 (by omega)
    · rcases Nat.lt_or_ge a 190 with h2 | h2
      · have : memN a (0 :: List.range' 124 66) = true := memN_iff.mpr (List.mem_cons_of_mem _ (List.mem_range'_1.mpr ⟨h1, h2⟩))
        rw [this] at ha; cases ha
      · exact o1 a n0 (by omega)
  have hv : UJ [209] [3] J J1 := ⟨fun a ha => by
    have n1 : a ≠ 207 := fun e => by subst e; cases ha
    have n2 : a ≠ 209 := fun e => by subst e; cases ha
    exact ja a n1 n2, fun k hk => by
    have n1 : k ≠ 3 := fun e => by subst e; cases hk
    exact jk k n1⟩
  have ht : UT I I1 := fun t ht => by
    obtain ⟨h1, h2⟩ := tab_lo t (memN_iff.mp ht)
    rw [o1 t h2 (by omega)]; exact ⟨rfl, rfl⟩
  have hpst : bPst I1 J1 := by
    refine ⟨(n + 1) % 6, min (c + 1) 6, Nat.mod_lt _ (by decide), by omega, z8, z9, j3, fun r hr2 => ?_⟩
    rw [jk 6 (by decide), jk 7 (by decide), ja 211 (by decide) (by decide), ja 212 (by decide) (by decide), ja 213 (by decide) (by decide), ja 214 (by decide) (by decide), j9]
    by_cases hlast : r < min c 5
    · obtain ⟨c1, c2, np2, na2, c3⟩ := hp (r + (c - min c 5)) (by omega)
      have hm : (n + 6 - c + (r + (c - min c 5))) % 6 = ((n + 1) % 6 + 6 - min (c + 1) 6 + r) % 6 := by omega
      rw [hm] at c1 c2 c3
      have hne : ((n + 1) % 6 + 6 - min (c + 1) 6 + r) % 6 ≠ n := by omega
      have hlt : ((n + 1) % 6 + 6 - min (c + 1) 6 + r) % 6 < 6 := Nat.mod_lt _ (by decide)
      generalize ((n + 1) % 6 + 6 - min (c + 1) 6 + r) % 6 = e at *
      have hq : ∀ q, 124 + 11 * e ≤ q → q < 124 + 11 * e + 11 → I1 q = I q := fun q h1 h2 => o1 q (by omega) (by omega)
      exact ⟨rW_cg (fun k hk => q1 r k hlast hk) (k_rW hq c1), k_rS hq c2, np2, na2, k_bW hq c3⟩
    · have hr3 : r = min c 5 := by omega
      have hm : ((n + 1) % 6 + 6 - min (c + 1) 6 + r) % 6 = n := by omega
      rw [hm, hr3]
      have hq : ∀ q, 124 + 11 * n ≤ q → q < 124 + 11 * n + 11 → I1 q = bcS I (124 + 11 * n) 2 10 q := fun q h1 h2 => o2 q (by omega)
      exact ⟨rW_cg (fun k hk => q2 k hk) (k_rW hq (rW_bc w1)), k_rS hq (rS_bc w2), np0, na0, k_bW hq (bW_bc w3)⟩
  refine ⟨rl_of hr hu hv ht z2 (Or.inl (by decide +kernel)) (Or.inl (by decide +kernel)) (Or.inl (by decide +kernel)) (Or.inl (by decide +kernel)) (Or.inl (by decide +kernel)) (Or.inl (by decide +kernel)) (Or.inl (by decide +kernel)) (Or.inl (by decide +kernel)) (Or.inl (by decide +kernel)) (Or.inl (by decide +kernel)) (Or.inl (by decide +kernel)) (Or.inl (by decide +kernel)) (Or.inl (by decide +kernel)) (Or.inl (by decide +kernel)) (Or.inl (by decide +kernel)) (Or.inl (by decide +kernel)) (Or.inl (by decide +kernel)) (Or.inr hpst) (Or.inl (by decide +kernel)) (Or.inl (by decide +kernel)), fun a h1 h2 => o1 a (by omega) (by omega), ja 208 (by decide) (by decide), jk⟩
theorem rl_tt {I0 J0 I J : MI} {np na : Nat} {e : Int32} (hr : Rl I0 J0) (h : TT 2 np na 0 e I0 J0 I J) : Rl I J := by
  obtain ⟨h1, h2, h3, h4, h5, h6, -⟩ := h
  have hb : bBk (I 14) (J 215) := by
    rcases h6 with ⟨-, q⟩ | ⟨q, -⟩
    · exact q
    · exact absurd q (by decide)
  have j7 : J 207 = J0 207 := h2 207 (by decide) (by decide) (by decide) (by decide)
  have hu : UI (14 :: 20 :: List.range' 2 11) I0 I := fun a ha => by
    have n1 : a ≠ 14 := fun e => by subst e; cases ha
    have n2 : a ≠ 20 := fun e => by subst e; cases ha
    rcases Nat.lt_or_ge a 2 with q1 | q1
    · exact h1 a n1 n2 (Or.inl q1)
    · rcases Nat.lt_or_ge a 13 with q2 | q2
      · have : memN a (14 :: 20 :: List.range' 2 11) = true := memN_iff.mpr (List.mem_cons_of_mem _ (List.mem_cons_of_mem _ (List.mem_range'_1.mpr ⟨q1, q2⟩)))
        rw [this] at ha; cases ha
      · exact h1 a n1 n2 (Or.inr (by omega))
  have hv : UJ [208, 215, 229, 230] [] J0 J := ⟨fun a ha => by
    have n1 : a ≠ 208 := fun e => by subst e; cases ha
    have n2 : a ≠ 215 := fun e => by subst e; cases ha
    have n3 : a ≠ 229 := fun e => by subst e; cases ha
    have n4 : a ≠ 230 := fun e => by subst e; cases ha
    exact h2 a n1 n2 n3 n4, fun k _ => by rw [j7]⟩
  have tb : ∀ t, t ∈ tabL → t ≠ 14 ∧ t ≠ 20 ∧ 12 < t := by decide
  have ht : UT I0 I := fun t ht => by
    obtain ⟨q1, q2, q3⟩ := tb t (memN_iff.mp ht)
    rw [h1 t q1 q2 (Or.inr q3)]; exact ⟨rfl, rfl⟩
  have z : I 0 = I0 0 := h1 0 (by decide) (by decide) (Or.inl (by decide))
  obtain ⟨⟨k1, -, -, -, k5, -⟩, -⟩ := id hr
  have jd : bDia I 23 2 J := by
    refine k_Dia (I := I0) (J := J0) (fun a q1 q2 => h1 a (by omega) (by omega) (by omega)) ?_ ?_ (by rw [j7]) (h2 227 (by decide) (by decide) (by decide) (by decide)) k5
    · exact h4.1.symm.trans ((congrFun j7 6).trans k1.2.1.1)
    · exact h4.2.1.symm.trans ((congrFun j7 7).trans k1.2.1.2.1)
  exact rl_of hr hu hv ht (by rw [z]) (Or.inr ⟨h3, h4, np, na, h5⟩) (Or.inr hb) (Or.inl (by decide +kernel)) (Or.inl (by decide +kernel)) (Or.inr jd) (Or.inl (by decide +kernel)) (Or.inl (by decide +kernel)) (Or.inl (by decide +kernel)) (Or.inl (by decide +kernel)) (Or.inl (by decide +kernel)) (Or.inl (by decide +kernel)) (Or.inl (by decide +kernel)) (Or.inl (by decide +kernel)) (Or.inl (by decide +kernel)) (Or.inl (by decide +kernel)) (Or.inl (by decide +kernel)) (Or.inl (by decide +kernel)) (Or.inl ⟨by rw [z], by rw [z], by decide +kernel⟩) (Or.inl (by decide +kernel)) (Or.inl (by decide +kernel))
end SC36b
