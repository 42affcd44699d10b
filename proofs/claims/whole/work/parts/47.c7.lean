/-! set, who -/
section SC7
theorem chg_in {I : MI} {t n m k v sz : Nat} (hs : siz shT t = sz) (hn : n ≤ sz) (hz : sz ≤ 100) (hm : m < 10000) (hk : k < n) (hv : v ≤ m) : F_World_change1 t (nn n) (nn m) (nn k) (nn v) I = some (1, bup I t (upd (I t) k (nn v))) := by
  unfold F_World_change1
  have q : ¬ (nn k < 0 ∨ nn n - 1 < nn k) := by
    rw [dec_lt (by omega)]
    intro h
    rcases h with h | h
    · exact nn_neg (by omega) h
    · exact h ((nn_lt (by omega) (by omega)).mpr hk)
  have q2 : ¬ nn v < 0 ∧ ¬ nn m < nn v := rng_in (a := 0) (b := m) (by omega) (Nat.zero_le v) hv
  rw [wi_in (fun h => q (Or.inl h)) (fun h => q (Or.inr h)), bn_rt, if_neg one_ne, wi_in q2.1 q2.2, bn_rt, if_neg one_ne, hs, ite_ap, if_pos (show nn k < Int32.ofNat sz from (nn_lt (by omega) (by omega)).mpr (by omega)), bn_sr _ _ (inR_nn (by omega) (by omega)), nn_nat (by omega)]
  rfl
theorem chg_no {I : MI} {t n m sz : Nat} {x y : Int32} (hs : siz shT t = sz) (hn : n ≤ sz) (hz : sz ≤ 100) (hm : m < 10000) (h : (x < 0 ∨ ¬ x < nn n) ∨ (y < nn 0 ∨ nn m < y)) : F_World_change1 t (nn n) (nn m) x y I = some (0, I) := by
  unfold F_World_change1
  by_cases q : x < 0 ∨ nn n - 1 < x
  · rw [wi_out q, bn_rt, if_pos rfl]; rfl
  · rw [wi_in (fun h => q (Or.inl h)) (fun h => q (Or.inr h)), bn_rt, if_neg one_ne]
    have h2 : y < 0 ∨ nn m < y := h.resolve_left (fun z => q ((dec_lt (by omega)).mpr z))
    rw [wi_out h2, bn_rt, if_pos rfl]; rfl
theorem set_end {I J I1 J1 : MI} {l m f : List Nat} (hr : Rl I J) (hu : UI l I I1) (hv : UJ m f J J1) (ht : UT I I1) (h02 : I1 0 2 = I 0 2) (h08 : I1 0 8 = I 0 8) (h09 : I1 0 9 = 0) (h3 : J1 207 3 = 0) (n1 : bWor I1 2 J1)
    (hd : (noneIn l [2, 23, 24, 14, 16, 17, 18, 19, 21, 22, 25, 26, 27, 28, 29, 30, 31, 32, 33, 34, 35, 36, 37, 38, 39, 40, 41, 42, 43, 44, 45, 46, 93, 106, 110, 122, 206] && (noneIn l (List.range' 48 45) && (noneIn (207 :: m) [227, 215, 218, 219, 220, 221, 222, 223, 224, 226, 228, 231, 232, 235, 236, 238, 239, 240, 241, 242, 243, 244, 245, 246, 248, 250, 216, 253, 217] && noneIn f [38, 36, 40, 44, 49, 53, 57, 61, 63, 67, 70, 14, 34, 35, 75, 5]))) = true) : Rl I1 J1 := by
  obtain ⟨d1, hd⟩ := and_mp hd
  obtain ⟨d2, hd⟩ := and_mp hd
  obtain ⟨d3, d4⟩ := and_mp hd
  have sub : ∀ {l : List Nat} (r s : List Nat), noneIn l r = true → s.all (fun c => memN c r) = true → noneIn l s = true := by
    intro l r s h1 h2
    induction s with
    | nil => rfl
    | cons a s ih =>
      rw [List.all_cons] at h2
      obtain ⟨e1, e2⟩ := and_mp h2
      show (!(memN a l) && noneIn l s) = true
      rw [noneIn_at h1 a (memN_iff.mp e1), ih e2]
      rfl
  refine rl_f l m f hr hu hv ht h02 h08 h09 h3 n1 ?_ ?_
  · have e2 := hu 2 (noneIn_at d1 _ (by decide))
    exact k_Dia (fun c h1 h2 => hu c (noneIn_at d1 c (by
      have : c = 23 ∨ c = 24 := by omega
      rcases this with rfl | rfl <;> decide))) (congrFun e2 7) (congrFun e2 8) (hv.2 38 (noneIn_at d4 _ (by decide))) (hv.1 227 (noneIn_at d3 _ (by decide))) hr.1.2.2.2.2.1
  · rw [sub _ _ d1 rfl, d2, sub _ _ d3 rfl, sub _ _ d4 rfl]; rfl
theorem c_set (x y z : Int32) : Call (F_A_set x y z) (F_R_set x y z) := by
  refine call_of fun I J hr => ?_
  obtain ⟨⟨k1, -⟩, -⟩ := id hr
  obtain ⟨r1, r2, np, na, r3⟩ := k1
  obtain ⟨w7, h6, w8, h18, w4, w6, wp, wh, wi, wo, ws, wu⟩ := id r3
  obtain ⟨b1, b2, b3, b4, b5, b6⟩ := id r2
  have j6 : J 207 6 = nn np := b1.trans w7
  have j7 : J 207 7 = nn na := b2.trans w8
  have s3 : siz shT (2 + 1) = 10 := by decide +kernel
  have s4 : siz shT (2 + 2) = 6 := by decide +kernel
  have s5 : siz shT (2 + 3) = 6 := by decide +kernel
  have s7 : siz shT (2 + 5) = 18 := by decide +kernel
  have s11 : siz shT (2 + 9) = 18 := by decide +kernel
  have pin : ∀ {k : Nat}, k < np → isX 207 6 (nn k) (bup J 207 (upd (J 207) 0 0)) = some (1, bup J 207 (upd (J 207) 0 0)) := fun hk => isX_in (n := np) (by exact j6) hk (by omega)
  have pout : ∀ {v : Int32}, (v < 0 ∨ ¬ v < nn np) → isX 207 6 v (bup J 207 (upd (J 207) 0 0)) = some (0, bup J 207 (upd (J 207) 0 0)) := fun hk => isX_out (n := np) (by exact j6) hk
  have ain : ∀ {k : Nat}, k < na → isX 207 7 (nn k) (bup J 207 (upd (J 207) 0 0)) = some (1, bup J 207 (upd (J 207) 0 0)) := fun hk => isX_in (n := na) (by exact j7) hk (by omega)
  have aout : ∀ {v : Int32}, (v < 0 ∨ ¬ v < nn na) → isX 207 7 v (bup J 207 (upd (J 207) 0 0)) = some (0, bup J 207 (upd (J 207) 0 0)) := fun hk => isX_out (n := na) (by exact j7) hk
  unfold F_A_set F_World_change0 F_R_set F_R_canSet K_R_canSet_39 K_R_set_43 K_R_set_70 F_A_forget
  simp only [isP_R, isA_R]
  by_cases x0 : x = 0
  · subst x0
    rcases nlt (x := y) 10 (by decide) with ⟨k, hk, rfl⟩ | out
    · have qs := rng_in (a := 0) (b := 9) (k := k) (by decide) (Nat.zero_le k) (by omega)
      have st : F_R_isStreet (nn k) = rt 1 := st_in qs.1 qs.2
      rcases rng (v := z) 0 9 (by decide) (by decide) with ⟨v, -, hv, rfl⟩ | out2
      · have c1 : F_World_change1 (2 + 1) 10 9 (nn k) (nn v) I = _ := chg_in (n := 10) (m := 9) s3 (by decide) (by decide) (by decide) hk hv
        have q2 := rng_in (a := 0) (b := 9) (by decide) (Nat.zero_le v) hv
        have wR : F_R_isIn (nn v) 0 9 = rt 1 := ri_in q2.1 q2.2
        have e7 : 7 + nn k = nn (7 + k) := nn_add 7 k
        have i7 : inR (nn (7 + k)) 95 = true := inR_nn (by omega) (by omega)
        have t7 : (nn (7 + k)).toNatClampNeg = 7 + k := nn_nat (by omega)
        simp (decide := true) only [ok_bn, ok_wr, ok_rd, ok_rt, ok_ite, ok_sr, ok_gdZ, ok_eq c1, st, wR, e7, i7, t7, bup_eq, bup_ne, upd_eq, upd_ne, if_true, if_false, true_and, and_true, or_true]
        refine set_end (l := [0, 3]) (m := [208]) (f := [0, 3]) hr (ui_bup (ui_bup (ui_refl _ _) rfl) rfl) (uj_fld (uj_bup (uj_fld (uj_refl _ _ _) rfl) rfl (by decide)) rfl) (ut_bup (ut_bup (ut_refl _) rfl) rfl) rfl rfl rfl rfl ⟨?_, ?_, np, na, ?_⟩ rfl
        · exact k_rW (fun c h1 h2 => bup_ne _ _ (by omega)) (rW_a1 (by omega) r1)
        · exact k_rS (fun c h1 h2 => bup_ne _ _ (by omega)) (rS_a (j := 1) (by decide) r2)
        · exact k_bW (fun c h1 h2 => bup_ne _ _ (by omega)) (bW_a (j := 1) (by decide) r3)
      · have c1 : F_World_change1 (2 + 1) 10 9 (nn k) z I = _ := chg_no (n := 10) (m := 9) s3 (by decide) (by decide) (by decide) (Or.inr out2)
        have wR : F_R_isIn z 0 9 = rt 0 := ri_out out2
        simp (decide := true) only [ok_bn, ok_wr, ok_rd, ok_rt, ok_ite, ok_sr, ok_gdZ, ok_eq c1, st, wR, bup_eq, bup_ne, upd_eq, upd_ne, if_true, if_false, true_and, and_true, true_or]
        exact rl_told hr
    · have c1 : F_World_change1 (2 + 1) 10 9 y z I = _ := chg_no (n := 10) (m := 9) s3 (by decide) (by decide) (by decide) (Or.inl out)
      have st : F_R_isStreet y = rt 0 := by
        refine st_out ?_
        rcases out with h | h
        · exact Or.inl h
        · rw [Int32.lt_iff_toInt_lt] at h
          by_cases h2 : y < 0
          · exact Or.inl h2
          · refine Or.inr ?_
            rw [Int32.lt_iff_toInt_lt]
            have e9 : (9 : Int32).toInt = 9 := rfl
            rw [nn_toInt (by decide)] at h
            omega
      simp (decide := true) only [ok_bn, ok_wr, ok_rd, ok_rt, ok_ite, ok_sr, ok_gdZ, ok_eq c1, st, bup_eq, bup_ne, upd_eq, upd_ne, if_true, if_false, true_and, and_true, true_or]
      exact rl_told hr
  · have isN : F_R_isIn 3 3 4 = rt 1 := ri_in (by decide) (by decide)
    have isM : F_R_isIn 4 3 4 = rt 1 := ri_in (by decide) (by decide)
    by_cases x1 : x = 1
    · subst x1
      rcases nlt (x := y) np (by omega) with ⟨k, hk, rfl⟩ | out
      · rcases rng (v := z) 0 9 (by decide) (by decide) with ⟨v, -, hv, rfl⟩ | out2
        · have c1 : F_World_change1 (2 + 2) (nn np) 9 (nn k) (nn v) I = _ := chg_in (n := np) (m := 9) s4 h6 (by decide) (by decide) hk hv
          have q2 := rng_in (a := 0) (b := 9) (by decide) (Nat.zero_le v) hv
          have wR : F_R_isIn (nn v) 0 9 = rt 1 := ri_in q2.1 q2.2
          have i7 : inR (nn k) 6 = true := inR_nn (by omega) (by omega)
          have t7 : (nn k).toNatClampNeg = k := nn_nat (by omega)
          simp (decide := true) only [ok_bn, ok_wr, ok_rd, ok_rt, ok_ite, ok_sr, ok_gdZ, w7, w8, ok_eq c1, ok_eq (pin hk), wR, isN, i7, t7, bup_eq, bup_ne, upd_eq, upd_ne, if_true, if_false, true_and, and_true, or_true]
          refine set_end (l := [0, 4]) (m := [211]) (f := [0, 3]) hr (ui_bup (ui_bup (ui_refl _ _) rfl) rfl) (uj_fld (uj_bup (uj_fld (uj_refl _ _ _) rfl) rfl (by decide)) rfl) (ut_bup (ut_bup (ut_refl _) rfl) rfl) rfl rfl rfl rfl ⟨?_, ?_, np, na, ?_⟩ rfl
          · exact k_rW2 (fun f _ => rfl) rfl rfl rfl rfl rfl rfl r1
          · exact ⟨b1, b2, upd_congr b3, b4, b5, b6⟩
          · exact r3
        · have c1 : F_World_change1 (2 + 2) (nn np) 9 (nn k) z I = _ := chg_no (n := np) (m := 9) s4 h6 (by decide) (by decide) (Or.inr out2)
          have wR : F_R_isIn z 0 9 = rt 0 := ri_out out2
          simp (decide := true) only [ok_bn, ok_wr, ok_rd, ok_rt, ok_ite, ok_sr, ok_gdZ, w7, w8, ok_eq c1, ok_eq (pin hk), wR, isN, bup_eq, bup_ne, upd_eq, upd_ne, if_true, if_false, true_and, and_true, true_or]
          exact rl_told hr
      · have c1 : F_World_change1 (2 + 2) (nn np) 9 y z I = _ := chg_no (n := np) (m := 9) s4 h6 (by decide) (by decide) (Or.inl out)
        simp (decide := true) only [ok_bn, ok_wr, ok_rd, ok_rt, ok_ite, ok_sr, ok_gdZ, w7, w8, ok_eq c1, ok_eq (pout out), isN, bup_eq, bup_ne, upd_eq, upd_ne, if_true, if_false, true_and, and_true, true_or]
        exact rl_told hr
    · by_cases x2 : x = 2
      · subst x2
        rcases nlt (x := y) np (by omega) with ⟨k, hk, rfl⟩ | out
        · rcases rng (v := z) 0 9999 (by decide) (by decide) with ⟨v, -, hv, rfl⟩ | out2
          · have c1 : F_World_change1 (2 + 3) (nn np) 9999 (nn k) (nn v) I = _ := chg_in (n := np) (m := 9999) s5 h6 (by decide) (by decide) hk hv
            have q2 := rng_in (a := 0) (b := 9999) (by decide) (Nat.zero_le v) hv
            have wR : F_R_isIn (nn v) 0 9999 = rt 1 := ri_in q2.1 q2.2
            have e7 : 17 + nn k = nn (17 + k) := nn_add 17 k
            have i7 : inR (nn (17 + k)) 95 = true := inR_nn (by omega) (by omega)
            have t7 : (nn (17 + k)).toNatClampNeg = 17 + k := nn_nat (by omega)
            simp (decide := true) only [ok_bn, ok_wr, ok_rd, ok_rt, ok_ite, ok_sr, ok_gdZ, w7, w8, ok_eq c1, ok_eq (pin hk), wR, isN, e7, i7, t7, bup_eq, bup_ne, upd_eq, upd_ne, if_true, if_false, true_and, and_true, or_true]
            refine set_end (l := [0, 5]) (m := [208]) (f := [0, 3]) hr (ui_bup (ui_bup (ui_refl _ _) rfl) rfl) (uj_fld (uj_bup (uj_fld (uj_refl _ _ _) rfl) rfl (by decide)) rfl) (ut_bup (ut_bup (ut_refl _) rfl) rfl) rfl rfl rfl rfl ⟨?_, ?_, np, na, ?_⟩ rfl
            · exact k_rW (fun c h1 h2 => bup_ne _ _ (by omega)) (rW_a3 (by omega) r1)
            · exact k_rS (fun c h1 h2 => bup_ne _ _ (by omega)) (rS_a (j := 3) (by decide) r2)
            · exact k_bW (fun c h1 h2 => bup_ne _ _ (by omega)) (bW_a3 hv r3)
          · have c1 : F_World_change1 (2 + 3) (nn np) 9999 (nn k) z I = _ := chg_no (n := np) (m := 9999) s5 h6 (by decide) (by decide) (Or.inr out2)
            have wR : F_R_isIn z 0 9999 = rt 0 := ri_out out2
            simp (decide := true) only [ok_bn, ok_wr, ok_rd, ok_rt, ok_ite, ok_sr, ok_gdZ, w7, w8, ok_eq c1, ok_eq (pin hk), wR, isN, bup_eq, bup_ne, upd_eq, upd_ne, if_true, if_false, true_and, and_true, true_or]
            exact rl_told hr
        · have c1 : F_World_change1 (2 + 3) (nn np) 9999 y z I = _ := chg_no (n := np) (m := 9999) s5 h6 (by decide) (by decide) (Or.inl out)
          simp (decide := true) only [ok_bn, ok_wr, ok_rd, ok_rt, ok_ite, ok_sr, ok_gdZ, w7, w8, ok_eq c1, ok_eq (pout out), isN, bup_eq, bup_ne, upd_eq, upd_ne, if_true, if_false, true_and, and_true, true_or]
          exact rl_told hr
      · by_cases x3 : x = 3
        · subst x3
          rcases nlt (x := y) na (by omega) with ⟨k, hk, rfl⟩ | out
          · rcases rng (v := z) 0 9 (by decide) (by decide) with ⟨v, -, hv, rfl⟩ | out2
            · have c1 : F_World_change1 (2 + 5) (nn na) 9 (nn k) (nn v) I = _ := chg_in (n := na) (m := 9) s7 h18 (by decide) (by decide) hk hv
              have q2 := rng_in (a := 0) (b := 9) (by decide) (Nat.zero_le v) hv
              have wR : F_R_isIn (nn v) 0 9 = rt 1 := ri_in q2.1 q2.2
              have i7 : inR (nn k) 18 = true := inR_nn (by omega) (by omega)
              have t7 : (nn k).toNatClampNeg = k := nn_nat (by omega)
              simp (decide := true) only [ok_bn, ok_wr, ok_rd, ok_rt, ok_ite, ok_sr, ok_gdZ, w7, w8, ok_eq c1, ok_eq (ain hk), wR, isN, i7, t7, bup_eq, bup_ne, upd_eq, upd_ne, if_true, if_false, true_and, and_true, or_true]
              refine set_end (l := [0, 7]) (m := [213]) (f := [0, 3]) hr (ui_bup (ui_bup (ui_refl _ _) rfl) rfl) (uj_fld (uj_bup (uj_fld (uj_refl _ _ _) rfl) rfl (by decide)) rfl) (ut_bup (ut_bup (ut_refl _) rfl) rfl) rfl rfl rfl rfl ⟨?_, ?_, np, na, ?_⟩ rfl
              · exact k_rW2 (fun f _ => rfl) rfl rfl rfl rfl rfl rfl r1
              · exact ⟨b1, b2, b3, b4, upd_congr b5, b6⟩
              · exact r3
            · have c1 : F_World_change1 (2 + 5) (nn na) 9 (nn k) z I = _ := chg_no (n := na) (m := 9) s7 h18 (by decide) (by decide) (Or.inr out2)
              have wR : F_R_isIn z 0 9 = rt 0 := ri_out out2
              simp (decide := true) only [ok_bn, ok_wr, ok_rd, ok_rt, ok_ite, ok_sr, ok_gdZ, w7, w8, ok_eq c1, ok_eq (ain hk), wR, isN, bup_eq, bup_ne, upd_eq, upd_ne, if_true, if_false, true_and, and_true, true_or]
              exact rl_told hr
          · have c1 : F_World_change1 (2 + 5) (nn na) 9 y z I = _ := chg_no (n := na) (m := 9) s7 h18 (by decide) (by decide) (Or.inl out)
            simp (decide := true) only [ok_bn, ok_wr, ok_rd, ok_rt, ok_ite, ok_sr, ok_gdZ, w7, w8, ok_eq c1, ok_eq (aout out), isN, bup_eq, bup_ne, upd_eq, upd_ne, if_true, if_false, true_and, and_true, true_or]
            exact rl_told hr
        · by_cases x4 : x = 4
          · subst x4
            rcases nlt (x := y) na (by omega) with ⟨k, hk, rfl⟩ | out
            · rcases rng (v := z) 0 99 (by decide) (by decide) with ⟨v, -, hv, rfl⟩ | out2
              · have c1 : F_World_change1 (2 + 9) (nn na) 99 (nn k) (nn v) I = _ := chg_in (n := na) (m := 99) s11 h18 (by decide) (by decide) hk hv
                have q2 := rng_in (a := 0) (b := 99) (by decide) (Nat.zero_le v) hv
                have wR : F_R_isIn (nn v) 0 99 = rt 1 := ri_in q2.1 q2.2
                have e7 : 59 + nn k = nn (59 + k) := nn_add 59 k
                have i7 : inR (nn (59 + k)) 95 = true := inR_nn (by omega) (by omega)
                have t7 : (nn (59 + k)).toNatClampNeg = 59 + k := nn_nat (by omega)
                simp (decide := true) only [ok_bn, ok_wr, ok_rd, ok_rt, ok_ite, ok_sr, ok_gdZ, w7, w8, ok_eq c1, ok_eq (ain hk), wR, isM, e7, i7, t7, bup_eq, bup_ne, upd_eq, upd_ne, if_true, if_false, true_and, and_true, or_true]
                refine set_end (l := [0, 11]) (m := [208]) (f := [0, 3]) hr (ui_bup (ui_bup (ui_refl _ _) rfl) rfl) (uj_fld (uj_bup (uj_fld (uj_refl _ _ _) rfl) rfl (by decide)) rfl) (ut_bup (ut_bup (ut_refl _) rfl) rfl) rfl rfl rfl rfl ⟨?_, ?_, np, na, ?_⟩ rfl
                · exact k_rW (fun c h1 h2 => bup_ne _ _ (by omega)) (rW_a9 (by omega) r1)
                · exact k_rS (fun c h1 h2 => bup_ne _ _ (by omega)) (rS_a (j := 9) (by decide) r2)
                · exact k_bW (fun c h1 h2 => bup_ne _ _ (by omega)) (bW_a (j := 9) (by decide) r3)
              · have c1 : F_World_change1 (2 + 9) (nn na) 99 (nn k) z I = _ := chg_no (n := na) (m := 99) s11 h18 (by decide) (by decide) (Or.inr out2)
                have wR : F_R_isIn z 0 99 = rt 0 := ri_out out2
                simp (decide := true) only [ok_bn, ok_wr, ok_rd, ok_rt, ok_ite, ok_sr, ok_gdZ, w7, w8, ok_eq c1, ok_eq (ain hk), wR, isM, bup_eq, bup_ne, upd_eq, upd_ne, if_true, if_false, true_and, and_true, true_or]
                exact rl_told hr
            · have c1 : F_World_change1 (2 + 9) (nn na) 99 y z I = _ := chg_no (n := na) (m := 99) s11 h18 (by decide) (by decide) (Or.inl out)
              simp (decide := true) only [ok_bn, ok_wr, ok_rd, ok_rt, ok_ite, ok_sr, ok_gdZ, w7, w8, ok_eq c1, ok_eq (aout out), isM, bup_eq, bup_ne, upd_eq, upd_ne, if_true, if_false, true_and, and_true, true_or]
              exact rl_told hr
          · have isO : F_R_isIn x 3 4 = rt 0 := by
              refine ri_out ?_
              by_cases h3 : x < 3
              · exact Or.inl h3
              · refine Or.inr ?_
                rw [Int32.lt_iff_toInt_lt] at h3 ⊢
                have e3 : (3 : Int32).toInt = 3 := rfl
                have e4 : (4 : Int32).toInt = 4 := rfl
                have n3 : x.toInt ≠ 3 := fun h => x3 (Int32.toInt_inj.mp (h.trans e3.symm))
                have n4 : x.toInt ≠ 4 := fun h => x4 (Int32.toInt_inj.mp (h.trans e4.symm))
                omega
            simp (decide := true) only [ok_bn, ok_wr, ok_rd, ok_rt, ok_ite, ok_sr, ok_gdZ, if_neg x0, if_neg x1, if_neg x2, if_neg x3, if_neg x4, isO, bup_eq, bup_ne, upd_eq, upd_ne, if_true, if_false, true_and, and_true, true_or]
            exact rl_told hr
end SC7
