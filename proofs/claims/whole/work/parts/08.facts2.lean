/-! each method, each link, by its number -/
theorem mF_at {z : Nat} {m : PInf} {t : List (Nat × Instr × Nat) × Nat × Nat × Nat} (hz : z < 326) (hm : pM[z]? = some m) (ht : pT[z]? = some t) : ∃ q, pMP[z]? = some q ∧ mF m t q = true := by
  have hq : z < pMP.length := by
    have e : pMP.length = 327 := by decide +kernel
    omega
  refine ⟨pMP[z], List.getElem?_eq_getElem hq, ?_⟩
  have h3 : pQ3[z]? = some (m, t, pMP[z]) := by
    unfold pQ3
    rw [List.getElem?_zip_eq_some]
    refine ⟨hm, ?_⟩
    rw [List.getElem?_zip_eq_some]
    exact ⟨ht, List.getElem?_eq_getElem hq⟩
  have key : ∀ (a n : Nat), a ≤ z → z < a + n → ((pQ3.drop a).take n).all (fun q => mF q.1 q.2.1 q.2.2) = true → mF m t pMP[z] = true := by
    intro a n h1 h2 h
    have h4 : ((pQ3.drop a).take n)[z - a]? = some (m, t, pMP[z]) := by
      rw [List.getElem?_take_of_lt (by omega), List.getElem?_drop, Nat.add_sub_cancel' h1]
      exact h3
    exact List.all_eq_true.mp h _ (List.mem_of_getElem? h4)
  have hd : z / 20 < 17 := by omega
  generalize hk : z / 20 = k at hd
  match k, hd, hk with
  | 0, _, hk => exact key 0 20 (by omega) (by omega) mF_0
  | 1, _, hk => exact key 20 20 (by omega) (by omega) mF_1
  | 2, _, hk => exact key 40 20 (by omega) (by omega) mF_2
  | 3, _, hk => exact key 60 20 (by omega) (by omega) mF_3
  | 4, _, hk => exact key 80 20 (by omega) (by omega) mF_4
  | 5, _, hk => exact key 100 20 (by omega) (by omega) mF_5
  | 6, _, hk => exact key 120 20 (by omega) (by omega) mF_6
  | 7, _, hk => exact key 140 20 (by omega) (by omega) mF_7
  | 8, _, hk => exact key 160 20 (by omega) (by omega) mF_8
  | 9, _, hk => exact key 180 20 (by omega) (by omega) mF_9
  | 10, _, hk => exact key 200 20 (by omega) (by omega) mF_10
  | 11, _, hk => exact key 220 20 (by omega) (by omega) mF_11
  | 12, _, hk => exact key 240 20 (by omega) (by omega) mF_12
  | 13, _, hk => exact key 260 20 (by omega) (by omega) mF_13
  | 14, _, hk => exact key 280 20 (by omega) (by omega) mF_14
  | 15, _, hk => exact key 300 20 (by omega) (by omega) mF_15
  | 16, _, hk => exact key 320 6 (by omega) (by omega) mF_16
  | k + 17, h, _ => exact absurd h (by omega)
theorem ml_at {o : Nat} {xs : List (Nat × Nat × Nat × Nat)} {e : Nat × Nat × Nat × Nat} (ho : pML[o]? = some xs) (he : e ∈ xs) : mlOK o e = true := by
  have hlt : o < 17 := (List.getElem?_eq_some_iff.mp ho).1
  obtain ⟨k, hk⟩ := List.getElem?_of_mem he
  have key : ∀ (a : Nat), a ≤ k → k < a + 40 → mlRow o a 40 = true → mlOK o e = true := by
    intro a h1 h2 h
    unfold mlRow at h
    rw [ho] at h
    have h4 : ((xs.drop a).take 40)[k - a]? = some e := by
      rw [List.getElem?_take_of_lt (by omega), List.getElem?_drop, Nat.add_sub_cancel' h1]
      exact hk
    exact List.all_eq_true.mp h _ (List.mem_of_getElem? h4)
  have hl : k < xs.length := (List.getElem?_eq_some_iff.mp hk).1
  match o, hlt, ho with
  | 0, _, ho =>
    have hx : xs.length = 0 := by have := Option.some.inj ho; rw [← this]; rfl
    exact absurd hl (by omega)
  | 1, _, ho =>
    have hx : xs.length = 25 := by have := Option.some.inj ho; rw [← this]; rfl
    rcases Nat.lt_or_ge k 40 with q | q
    · exact key 0 (by omega) (by omega) mlOK_1_0
    exact absurd hl (by omega)
  | 2, _, ho =>
    have hx : xs.length = 9 := by have := Option.some.inj ho; rw [← this]; rfl
    rcases Nat.lt_or_ge k 40 with q | q
    · exact key 0 (by omega) (by omega) mlOK_2_0
    exact absurd hl (by omega)
  | 3, _, ho =>
    have hx : xs.length = 5 := by have := Option.some.inj ho; rw [← this]; rfl
    rcases Nat.lt_or_ge k 40 with q | q
    · exact key 0 (by omega) (by omega) mlOK_3_0
    exact absurd hl (by omega)
  | 4, _, ho =>
    have hx : xs.length = 11 := by have := Option.some.inj ho; rw [← this]; rfl
    rcases Nat.lt_or_ge k 40 with q | q
    · exact key 0 (by omega) (by omega) mlOK_4_0
    exact absurd hl (by omega)
  | 5, _, ho =>
    have hx : xs.length = 35 := by have := Option.some.inj ho; rw [← this]; rfl
    rcases Nat.lt_or_ge k 40 with q | q
    · exact key 0 (by omega) (by omega) mlOK_5_0
    exact absurd hl (by omega)
  | 6, _, ho =>
    have hx : xs.length = 24 := by have := Option.some.inj ho; rw [← this]; rfl
    rcases Nat.lt_or_ge k 40 with q | q
    · exact key 0 (by omega) (by omega) mlOK_6_0
    exact absurd hl (by omega)
  | 7, _, ho =>
    have hx : xs.length = 8 := by have := Option.some.inj ho; rw [← this]; rfl
    rcases Nat.lt_or_ge k 40 with q | q
    · exact key 0 (by omega) (by omega) mlOK_7_0
    exact absurd hl (by omega)
  | 8, _, ho =>
    have hx : xs.length = 3 := by have := Option.some.inj ho; rw [← this]; rfl
    rcases Nat.lt_or_ge k 40 with q | q
    · exact key 0 (by omega) (by omega) mlOK_8_0
    exact absurd hl (by omega)
  | 9, _, ho =>
    have hx : xs.length = 10 := by have := Option.some.inj ho; rw [← this]; rfl
    rcases Nat.lt_or_ge k 40 with q | q
    · exact key 0 (by omega) (by omega) mlOK_9_0
    exact absurd hl (by omega)
  | 10, _, ho =>
    have hx : xs.length = 6 := by have := Option.some.inj ho; rw [← this]; rfl
    rcases Nat.lt_or_ge k 40 with q | q
    · exact key 0 (by omega) (by omega) mlOK_10_0
    exact absurd hl (by omega)
  | 11, _, ho =>
    have hx : xs.length = 56 := by have := Option.some.inj ho; rw [← this]; rfl
    rcases Nat.lt_or_ge k 40 with q | q
    · exact key 0 (by omega) (by omega) mlOK_11_0
    rcases Nat.lt_or_ge k 80 with q | q
    · exact key 40 (by omega) (by omega) mlOK_11_1
    exact absurd hl (by omega)
  | 12, _, ho =>
    have hx : xs.length = 98 := by have := Option.some.inj ho; rw [← this]; rfl
    rcases Nat.lt_or_ge k 40 with q | q
    · exact key 0 (by omega) (by omega) mlOK_12_0
    rcases Nat.lt_or_ge k 80 with q | q
    · exact key 40 (by omega) (by omega) mlOK_12_1
    rcases Nat.lt_or_ge k 120 with q | q
    · exact key 80 (by omega) (by omega) mlOK_12_2
    exact absurd hl (by omega)
  | 13, _, ho =>
    have hx : xs.length = 84 := by have := Option.some.inj ho; rw [← this]; rfl
    rcases Nat.lt_or_ge k 40 with q | q
    · exact key 0 (by omega) (by omega) mlOK_13_0
    rcases Nat.lt_or_ge k 80 with q | q
    · exact key 40 (by omega) (by omega) mlOK_13_1
    rcases Nat.lt_or_ge k 120 with q | q
    · exact key 80 (by omega) (by omega) mlOK_13_2
    exact absurd hl (by omega)
  | 14, _, ho =>
    have hx : xs.length = 0 := by have := Option.some.inj ho; rw [← this]; rfl
    exact absurd hl (by omega)
  | 15, _, ho =>
    have hx : xs.length = 0 := by have := Option.some.inj ho; rw [← this]; rfl
    exact absurd hl (by omega)
  | 16, _, ho =>
    have hx : xs.length = 0 := by have := Option.some.inj ho; rw [← this]; rfl
    exact absurd hl (by omega)
  | o + 17, h, _ => exact absurd h (by omega)
