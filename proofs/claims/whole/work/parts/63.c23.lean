/-! settled, put together -/
section SC23
theorem geV_0 {v : Nat → Int32} {E : Nat → Nat} : geV v E 0 = 0 := by
  unfold geV
  rw [bM_0, if_neg (fun q => q.2 rfl)]
theorem geV_n {v : Nat → Int32} {E : Nat → Nat} {m : Nat} (h : m ≠ 0) : geV v E m = bM E m 6 + if sS v m 6 = 0 then 1 else 0 := by
  unfold geV
  by_cases c : sS v m 6 = 0
  · rw [if_pos c, if_pos ⟨c, h⟩]
  · rw [if_neg c, if_neg (fun q => c q.1)]
theorem pc_6 : ∀ Z, Z < 64 → pcN Z + zC 63 Z 6 = 6 := by decide +kernel
theorem a_63 : ∀ k, k < 64 → k &&& 63 = k ∧ 63 &&& k = k := by decide +kernel
theorem few_eq {v : Nat → Int32} {E F : Nat → Nat} (hE : ∀ s, s < 64 → E s = geV v E (s &&& 63)) (hF : ∀ s, s < 64 → F s = geV v F (s &&& zS v 6)) : nn 6 - nn (E 63) = nn (pcN (zS v 6)) - nn (F (zS v 6)) := by
  have zl : zS v 6 < 64 := zS_lt (v := v) 6 (by omega)
  have g := gifts (v := v) (E := E) (F := F) (Z := zS v 6) zl (fun i hi hb => by
      rw [zS_bit 6 (by omega), decide_eq_true hi] at hb
      by_cases c : v i = 0
      · exact c
      · rw [decide_eq_false c] at hb; cases hb)
    (by rw [hE 0 (by omega), Nat.zero_and, geV_0])
    (fun x hx x0 => by
      have := hE x hx
      rw [(a_63 x hx).1, geV_n x0] at this
      exact this)
    (by rw [hF 0 (by omega), Nat.zero_and, geV_0])
    (fun s hs s0 hz => by
      have := hF s hs
      rw [hz, geV_n s0] at this
      exact this) 63 (by omega)
  rw [(a_63 _ zl).2] at g
  have p := pc_6 _ zl
  have p6 : nn 6 = nn (pcN (zS v 6)) + nn (zC 63 (zS v 6) 6) := by rw [nn_add, p]
  rw [g, ← nn_add, p6]
  rw [Int32.sub_eq_iff_eq_add, ← Int32.add_assoc, Int32.sub_add_cancel]
theorem lt_m1 {x : Int32} (h : x < 0) (h1 : ¬ x = -1) : x < -1 := by
  rw [Int32.lt_iff_toInt_lt] at h ⊢
  have e0 : (0 : Int32).toInt = 0 := by decide
  have e1 : (-1 : Int32).toInt = -1 := by decide
  have e2 : x.toInt ≠ -1 := fun q => h1 (Int32.toInt_inj.mp (q.trans e1.symm))
  omega
theorem c_settled (x : Int32) : Call (F_A_settled x) (F_R_settled x) := by
  refine call_of fun I J hr => ?_
  obtain ⟨⟨-, -, -, -, -, -, -, -, -, -, -, -, -, -, -, k16⟩, -, -, -, kc⟩ := id hr
  obtain ⟨tw, tr⟩ := con_at kc (t := 45) (w := 3) (r := 8) (by decide)
  obtain ⟨n, hn, h3, hJ3, hrow, hJ⟩ := k16
  unfold F_A_settled F_R_settled
  by_cases x1 : x = -1
  · subst x1
    have wR : F_R_isIn (-1) (-1) 5 = rt 1 := ri_in (by decide) (by decide)
    obtain ⟨G, T, E, hA, -, qE⟩ := few_A (I := I) (v := J 250) hn tw h3 (fun i hi => (hJ i hi).symm)
    obtain ⟨T2, F, hR, -, qF⟩ := few_R (J := bup J 207 (upd (J 207) 0 0)) (v := J 250) (fun i hi => by rw [bup_ne _ _ (by decide)])
    have := few_eq qE qF
    simp (decide := true) only [ok_bn, ok_wr, ok_ite, ok_rt, wR, if_true, if_false, ok_eq hA, ok_eq hR]
    exact ⟨this.symm, rl_none [205, 204] [251] [0] hr (ui_bup (ui_bup (ui_refl _ _) rfl) rfl) (uj_bup (uj_fld (uj_refl _ _ _) rfl) rfl (by decide)) (ut_bup (ut_bup (ut_refl _) rfl) rfl) rfl rfl rfl rfl⟩
  · rcases rng (v := x) 0 5 (by decide) (by decide) with ⟨q, a1, a2, rfl⟩ | out
    · have q3 := rng_in (a := 0) (b := 5) (by decide) a1 a2
      have wA : F_A_within (nn q) 0 5 = rt 1 := wi_in q3.1 q3.2
      have nm : ∀ q, q < 6 → ¬ nn q < -1 := by decide
      have wR : F_R_isIn (nn q) (-1) 5 = rt 1 := ri_in (nm q (by omega)) q3.2
      have e1 : inR (nn q) 6 = true := inR_nn (by omega) (by omega)
      have e2 : (nn q).toNatClampNeg = q := nn_nat (by omega)
      have t := get_A (I := I) (J := I) (i := q) hn (by omega) tw h3
      simp (decide := true) only [ok_bn, ok_wr, ok_ite, ok_rt, wA, wR, if_neg x1, if_false, ok_eq t, ok_ld, e1, e2, true_and, bup_ne]
      exact ⟨hJ q (by omega), rl_told hr⟩
    · have wA : F_A_within x 0 5 = rt 0 := wi_out out
      have wR : F_R_isIn x (-1) 5 = rt 0 := ri_out (out.imp (fun h => lt_m1 h x1) id)
      simp (decide := true) only [ok_bn, ok_wr, ok_rt, ok_ite, wA, wR, if_neg x1, if_true, if_false, true_and]
      exact rl_told hr
end SC23
