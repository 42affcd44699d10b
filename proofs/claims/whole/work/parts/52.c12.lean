/-! what touches no ints, computed -/
section SC12
def PuM {α : Type} (m : M α) : Prop := ∃ o : Option α, ∀ I, m I = o.map fun x => (x, I)
def ZI : MI := fun _ _ => 0
def vaM {α : Type} (m : M α) : Option α := (m ZI).map Prod.fst
theorem pu_va {α : Type} {m : M α} {v : α} (h : PuM m) (hv : vaM m = some v) (I : MI) : m I = some (v, I) := by
  obtain ⟨o, ho⟩ := h
  unfold vaM at hv
  rw [ho ZI] at hv
  cases o with
  | none => cases hv
  | some x => cases hv; exact ho I
theorem pu_rt {α : Type} (x : α) : PuM (rt x) := ⟨some x, fun _ => rfl⟩
theorem pu_fl {α : Type} : PuM (fl : M α) := ⟨none, fun _ => rfl⟩
theorem pu_bn {α β : Type} {m : M α} {f : α → M β} (h : PuM m) (hf : ∀ x, PuM (f x)) : PuM (bn m f) := by
  obtain ⟨o, ho⟩ := h
  cases o with
  | none => exact ⟨none, fun I => by unfold bn; rw [ho I]; rfl⟩
  | some x =>
    obtain ⟨q, hq⟩ := hf x
    exact ⟨q, fun I => by unfold bn; rw [ho I]; exact hq I⟩
theorem pu_ite {α : Type} {c : Prop} [Decidable c] {a b : M α} (ha : PuM a) (hb : PuM b) : PuM (if c then a else b) := by
  by_cases h : c
  · rw [if_pos h]; exact ha
  · rw [if_neg h]; exact hb
theorem pu_dvI {α : Type} {y : Int32} {k : M α} (h : PuM k) : PuM (dvI y k) := pu_ite pu_fl h
theorem pu_dvJ {α : Type} {y : Int64} {k : M α} (h : PuM k) : PuM (dvJ y k) := pu_ite pu_fl h
theorem pu_lp {σ β : Type} {body : σ → M (σ ⊕ β)} (h : ∀ x, PuM (body x)) : ∀ (n : Nat) (x : σ), PuM (lp body n x) := by
  intro n
  induction n with
  | zero => intro x; exact pu_fl
  | succ n ih =>
    intro x
    rw [lp_s]
    refine pu_bn (h x) fun r => ?_
    cases r with
    | inl y => exact ih y
    | inr y => exact pu_rt y
theorem pu_cd (a b : Int64) : PuM (F_Riddles_commonDivisor a b) := by
  have hb : ∀ y, PuM (B_Riddles_commonDivisor_3 y) := fun y => by
    unfold B_Riddles_commonDivisor_3
    refine pu_ite (pu_ite (pu_rt _) (pu_dvJ (pu_rt _))) (pu_rt _)
  unfold F_Riddles_commonDivisor K_Riddles_commonDivisor_17 K_Riddles_commonDivisor_3
  exact pu_ite (pu_ite (pu_rt _) (pu_dvJ (pu_lp hb _ _))) (pu_rt _)
theorem pu_hp (a b c : Int32) (n : Nat) (x : Int32 × Int32 × Int32) : PuM (lp (B_R_hoop_50 a b c) n x) := by
  refine pu_lp (fun y => ?_) n x
  unfold B_R_hoop_50
  exact pu_ite (pu_rt _) (pu_dvI (pu_rt _))
def hpOK (n k : Nat) : Bool := match vaM (F_Riddles_commonDivisor (Int32.toInt64 (nn n)) (Int32.toInt64 (nn k))) with
  | some d => !decide (Int64.toInt32 d = 0) && decide (vaM (lp (B_R_hoop_50 (nn n) (nn k) 0) FU (1, 0, nn k - nn k / nn n * nn n)) = some (nn n / Int64.toInt32 d, fmJ (-(nn k)) (nn n)))
  | none => false
theorem hp_1 : (List.range 10).all (fun n => (List.range 60).all fun k => hpOK (n + 1) (k + 1)) = true := by decide +kernel
theorem hp_2 : (List.range 10).all (fun n => (List.range 60).all fun k => hpOK (n + 11) (k + 1)) = true := by decide +kernel
theorem hp_3 : (List.range 10).all (fun n => (List.range 60).all fun k => hpOK (n + 21) (k + 1)) = true := by decide +kernel
theorem hp_4 : (List.range 10).all (fun n => (List.range 60).all fun k => hpOK (n + 31) (k + 1)) = true := by decide +kernel
theorem hp_5 : (List.range 10).all (fun n => (List.range 60).all fun k => hpOK (n + 41) (k + 1)) = true := by decide +kernel
theorem hp_6 : (List.range 10).all (fun n => (List.range 60).all fun k => hpOK (n + 51) (k + 1)) = true := by decide +kernel
theorem hp_at {n k : Nat} (hn : n < 60) (hk : k < 60) : hpOK (n + 1) (k + 1) = true := by
  have g : ∀ {q : Nat}, (List.range 10).all (fun n => (List.range 60).all fun k => hpOK (n + q) (k + 1)) = true → ∀ j, j < 10 → hpOK (j + q) (k + 1) = true := fun h j hj => List.all_eq_true.mp (List.all_eq_true.mp h j (List.mem_range.mpr hj)) k (List.mem_range.mpr hk)
  rcases Nat.lt_or_ge n 10 with h | h
  · exact g hp_1 n h
  · rcases Nat.lt_or_ge n 20 with h2 | h2
    · have := g hp_2 (n - 10) (by omega)
      rw [show n - 10 + 11 = n + 1 by omega] at this; exact this
    · rcases Nat.lt_or_ge n 30 with h3 | h3
      · have := g hp_3 (n - 20) (by omega)
        rw [show n - 20 + 21 = n + 1 by omega] at this; exact this
      · rcases Nat.lt_or_ge n 40 with h4 | h4
        · have := g hp_4 (n - 30) (by omega)
          rw [show n - 30 + 31 = n + 1 by omega] at this; exact this
        · rcases Nat.lt_or_ge n 50 with h5 | h5
          · have := g hp_5 (n - 40) (by omega)
            rw [show n - 40 + 41 = n + 1 by omega] at this; exact this
          · have := g hp_6 (n - 50) (by omega)
            rw [show n - 50 + 51 = n + 1 by omega] at this; exact this
theorem hp_use {n k : Nat} (h : hpOK n k = true) : ∃ d, vaM (F_Riddles_commonDivisor (Int32.toInt64 (nn n)) (Int32.toInt64 (nn k))) = some d ∧ ¬ Int64.toInt32 d = 0 ∧ vaM (lp (B_R_hoop_50 (nn n) (nn k) 0) FU (1, 0, nn k - nn k / nn n * nn n)) = some (nn n / Int64.toInt32 d, fmJ (-(nn k)) (nn n)) := by
  unfold hpOK at h
  cases hd : vaM (F_Riddles_commonDivisor (Int32.toInt64 (nn n)) (Int32.toInt64 (nn k))) with
  | none => rw [hd] at h; cases h
  | some d =>
    rw [hd] at h
    obtain ⟨h1, h2⟩ := and_mp h
    exact ⟨d, rfl, by simpa using h1, of_decide_eq_true h2⟩
theorem c_hoop (x y z : Int32) : Call (F_A_hoop x y z) (F_R_hoop x y z) := by
  refine call_of fun I J hr => ?_
  unfold F_A_hoop F_R_hoop K_R_hoop_50 K_R_hoop_76
  rcases rng (v := x) 1 60 (by decide) (by decide) with ⟨n, n1, n2, rfl⟩ | out
  · have q := rng_in (a := 1) (b := 60) (by decide) n1 n2
    have wA : F_A_within (nn n) 1 60 = rt 1 := wi_in q.1 q.2
    have wR : F_R_isIn (nn n) 1 60 = rt 1 := ri_in q.1 q.2
    rcases rng (v := y) 1 60 (by decide) (by decide) with ⟨k, k1, k2, rfl⟩ | out2
    · have q2 := rng_in (a := 1) (b := 60) (by decide) k1 k2
      have wA2 : F_A_within (nn k) 1 60 = rt 1 := wi_in q2.1 q2.2
      have wR2 : F_R_isIn (nn k) 1 60 = rt 1 := ri_in q2.1 q2.2
      have hk := hp_at (n := n - 1) (k := k - 1) (by omega) (by omega)
      rw [show n - 1 + 1 = n by omega, show k - 1 + 1 = k by omega] at hk
      obtain ⟨d, d1, d2, d3⟩ := hp_use hk
      have fA := pu_va (pu_cd _ _) d1 I
      have fR : ∀ c, lp (B_R_hoop_50 (nn n) (nn k) c) FU (1, 0, nn k - nn k / nn n * nn n) (bup J 207 (upd (J 207) 0 0)) = _ := fun c => pu_va (pu_hp (nn n) (nn k) 0 FU _) d3 _
      have e0 : ¬ nn n = 0 := nn_ne (k := 0) (by omega) (by decide) (by omega)
      have dv : ∀ {β : Type} (m : M β), dvI (nn n) m = m := fun m => dvI_ne m e0
      have dw : ∀ {β : Type} (m : M β), dvI (Int64.toInt32 d) m = m := fun m => dvI_ne m d2
      by_cases z0 : z = 0
      · subst z0
        have iR : F_R_isIn 0 0 1 = rt 1 := ri_in (by decide) (by decide)
        simp (decide := true) only [ok_bn, ok_wr, ok_rt, ok_ite, wA, wR, wA2, wR2, iR, ok_eq fA, ok_eq (fR 0), dv, dw, if_true, if_false, true_and]
        exact rl_told hr
      · by_cases z1 : z = 1
        · subst z1
          have iR : F_R_isIn 1 0 1 = rt 1 := ri_in (by decide) (by decide)
          simp (decide := true) only [ok_bn, ok_wr, ok_rt, ok_ite, wA, wR, wA2, wR2, iR, ok_eq fA, ok_eq (fR 1), dv, dw, if_true, if_false, true_and]
          exact rl_told hr
        · have iR : F_R_isIn z 0 1 = rt 0 := by
            refine ri_out ?_
            rcases rng (v := z) 0 1 (by decide) (by decide) with ⟨k, -, k2, rfl⟩ | out
            · exfalso
              match k, k2 with
              | 0, _ => exact z0 rfl
              | 1, _ => exact z1 rfl
              | k + 2, h => omega
            · exact out
          simp (decide := true) only [ok_bn, ok_wr, ok_rt, ok_ite, wA, wR, wA2, wR2, iR, if_neg z0, if_neg z1, if_true, if_false, true_and]
          exact rl_told hr
    · have wA2 : F_A_within y 1 60 = rt 0 := wi_out out2
      have wR2 : F_R_isIn y 1 60 = rt 0 := ri_out out2
      simp (decide := true) only [ok_bn, ok_wr, ok_rt, ok_ite, wA, wR, wA2, wR2, if_true, if_false, true_and]
      exact rl_told hr
  · have wA : F_A_within x 1 60 = rt 0 := wi_out out
    have wR : F_R_isIn x 1 60 = rt 0 := ri_out out
    simp (decide := true) only [ok_bn, ok_wr, ok_rt, ok_ite, wA, wR, if_true, if_false, true_and]
    exact rl_told hr
/-! birthdays -/
theorem pu_cm (a b : Int32) : PuM (F_R_common a b) := by
  unfold F_R_common K_R_common_5
  refine pu_lp (fun y => ?_) _ _
  unfold B_R_common_5
  exact pu_ite (pu_rt _) (pu_dvI (pu_rt _))
theorem pu_tg (a b c : Int32) : PuM (F_Riddles_together a b c) := by
  unfold F_Riddles_together K_Riddles_together_9 K_Riddles_together_42
  refine pu_bn (pu_lp (fun y => ?_) _ _) (fun e => pu_bn (pu_cd _ _) fun v => pu_ite (pu_dvJ (pu_rt _)) (pu_dvJ (pu_rt _)))
  unfold B_Riddles_together_9
  exact pu_ite (pu_rt _) (pu_rt _)
theorem pu_bd (a b c : Int32) (n : Nat) (x : Int32 × Int32 × Int32) : PuM (lp (B_R_birthdays_48 a b c) n x) := by
  refine pu_lp (fun y => ?_) n x
  unfold B_R_birthdays_48 K_R_birthdays_92 K_R_birthdays_116 K_R_birthdays_140
  refine pu_ite ?_ (pu_rt _)
  rw [gr_R, bn_rt]
  exact pu_bn (pu_cm _ _) fun _ => pu_dvI (pu_dvI (pu_bn (pu_cm _ _) fun _ => pu_dvI (pu_dvI (pu_bn (pu_cm _ _) fun _ => pu_dvI (pu_dvI (pu_rt _))))))
theorem bd_c (a b c : Int32) : B_R_birthdays_48 a b c = B_R_birthdays_48 a b 0 := rfl
def bdOK (n d : Nat) : Bool := match vaM (lp (B_R_birthdays_48 (nn n) (nn d) 0) FU (1, 1, 0)) with
  | some e => decide (vaM (F_Riddles_together (nn n) (nn d) 0) = some (e.2 - e.1)) && decide (vaM (F_Riddles_together (nn n) (nn d) 1) = some e.2)
  | none => false
theorem bd_all : (List.range 8).all (fun n => (List.range 20).all fun d => bdOK (n + 1) (d + 1)) = true := by decide +kernel
theorem bd_use {n d : Nat} (h : bdOK n d = true) : ∃ e, vaM (lp (B_R_birthdays_48 (nn n) (nn d) 0) FU (1, 1, 0)) = some e ∧ vaM (F_Riddles_together (nn n) (nn d) 0) = some (e.2 - e.1) ∧ vaM (F_Riddles_together (nn n) (nn d) 1) = some e.2 := by
  unfold bdOK at h
  cases hd : vaM (lp (B_R_birthdays_48 (nn n) (nn d) 0) FU (1, 1, 0)) with
  | none => rw [hd] at h; cases h
  | some e =>
    rw [hd] at h
    obtain ⟨h1, h2⟩ := and_mp h
    exact ⟨e, rfl, of_decide_eq_true h1, of_decide_eq_true h2⟩
theorem c_birthdays (x y z : Int32) : Call (F_A_birthdays x y z) (F_R_birthdays x y z) := by
  refine call_of fun I J hr => ?_
  unfold F_A_birthdays F_R_birthdays K_R_birthdays_48 K_R_birthdays_160
  rcases rng (v := x) 1 8 (by decide) (by decide) with ⟨n, n1, n2, rfl⟩ | out
  · have q := rng_in (a := 1) (b := 8) (by decide) n1 n2
    have wA : F_A_within (nn n) 1 8 = rt 1 := wi_in q.1 q.2
    have wR : F_R_isIn (nn n) 1 8 = rt 1 := ri_in q.1 q.2
    rcases rng (v := y) 1 20 (by decide) (by decide) with ⟨k, k1, k2, rfl⟩ | out2
    · have q2 := rng_in (a := 1) (b := 20) (by decide) k1 k2
      have wA2 : F_A_within (nn k) 1 20 = rt 1 := wi_in q2.1 q2.2
      have wR2 : F_R_isIn (nn k) 1 20 = rt 1 := ri_in q2.1 q2.2
      have hk := List.all_eq_true.mp (List.all_eq_true.mp bd_all (n - 1) (List.mem_range.mpr (by omega))) (k - 1) (List.mem_range.mpr (by omega))
      rw [show n - 1 + 1 = n by omega, show k - 1 + 1 = k by omega] at hk
      obtain ⟨e, d1, d2, d3⟩ := bd_use hk
      have fA0 := pu_va (pu_tg _ _ _) d2 I
      have fA1 := pu_va (pu_tg _ _ _) d3 I
      have fR : ∀ c, lp (B_R_birthdays_48 (nn n) (nn k) c) FU (1, 1, 0) (bup J 207 (upd (J 207) 0 0)) = _ := fun c => pu_va (pu_bd (nn n) (nn k) 0 FU _) d1 _
      rcases rng (v := z) 0 1 (by decide) (by decide) with ⟨c, -, c2, rfl⟩ | out3
      · have q3 := rng_in (a := 0) (b := 1) (by decide) (Nat.zero_le c) c2
        have wA3 : F_A_within (nn c) 0 1 = rt 1 := wi_in q3.1 q3.2
        have wR3 : F_R_isIn (nn c) 0 1 = rt 1 := ri_in q3.1 q3.2
        match c, c2 with
        | 0, _ =>
          simp (decide := true) only [ok_bn, ok_wr, ok_rt, ok_ite, wA, wR, wA2, wR2, wA3, wR3, ok_eq (fR (nn 0)), if_true, if_false]
          rw [show nn 0 = (0 : Int32) from rfl, ok_eq fA0]
          exact ⟨rfl, rl_told hr⟩
        | 1, _ =>
          simp (decide := true) only [ok_bn, ok_wr, ok_rt, ok_ite, wA, wR, wA2, wR2, wA3, wR3, ok_eq (fR (nn 1)), if_true, if_false]
          rw [show nn 1 = (1 : Int32) from rfl, ok_eq fA1]
          exact ⟨rfl, rl_told hr⟩
        | c + 2, h => omega
      · have wA3 : F_A_within z 0 1 = rt 0 := wi_out out3
        have wR3 : F_R_isIn z 0 1 = rt 0 := ri_out out3
        simp (decide := true) only [ok_bn, ok_wr, ok_rt, ok_ite, wA, wR, wA2, wR2, wA3, wR3, if_true, if_false, true_and]
        exact rl_told hr
    · have wA2 : F_A_within y 1 20 = rt 0 := wi_out out2
      have wR2 : F_R_isIn y 1 20 = rt 0 := ri_out out2
      simp (decide := true) only [ok_bn, ok_wr, ok_rt, ok_ite, wA, wR, wA2, wR2, if_true, if_false, true_and]
      exact rl_told hr
  · have wA : F_A_within x 1 8 = rt 0 := wi_out out
    have wR : F_R_isIn x 1 8 = rt 0 := ri_out out
    simp (decide := true) only [ok_bn, ok_wr, ok_rt, ok_ite, wA, wR, if_true, if_false, true_and]
    exact rl_told hr
end SC12
