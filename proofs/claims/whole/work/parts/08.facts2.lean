/-! each method, each link, by its number -/
theorem mChk_at {z : Nat} {m : PInf} {t : MR} (hm : pM[z]? = some m) (ht : pT[z]? = some t) : mChk m t = true := by
  have hz : z < 326 := by
    have e : pM.length = 326 := by decide +kernel
    have := (List.getElem?_eq_some_iff.mp hm).1
    omega
  have h3 : pQ[z]? = some (m, t) := by
    unfold pQ
    rw [List.getElem?_zip_eq_some]
    exact ⟨hm, ht⟩
  rcases Nat.lt_or_ge z 10 with q | q
  · exact allAt (p := fun q : PInf × MR => mChk q.1 q.2) 0 10 (by omega) (by omega) h3 mChkS_0
  rcases Nat.lt_or_ge z 24 with q | q
  · exact allAt (p := fun q : PInf × MR => mChk q.1 q.2) 10 14 (by omega) (by omega) h3 mChkS_10
  rcases Nat.lt_or_ge z 33 with q | q
  · exact allAt (p := fun q : PInf × MR => mChk q.1 q.2) 24 9 (by omega) (by omega) h3 mChkS_24
  rcases Nat.lt_or_ge z 43 with q | q
  · exact allAt (p := fun q : PInf × MR => mChk q.1 q.2) 33 10 (by omega) (by omega) h3 mChkS_33
  rcases Nat.lt_or_ge z 50 with q | q
  · exact allAt (p := fun q : PInf × MR => mChk q.1 q.2) 43 7 (by omega) (by omega) h3 mChkS_43
  rcases Nat.lt_or_ge z 60 with q | q
  · exact allAt (p := fun q : PInf × MR => mChk q.1 q.2) 50 10 (by omega) (by omega) h3 mChkS_50
  rcases Nat.lt_or_ge z 69 with q | q
  · exact allAt (p := fun q : PInf × MR => mChk q.1 q.2) 60 9 (by omega) (by omega) h3 mChkS_60
  rcases Nat.lt_or_ge z 84 with q | q
  · exact allAt (p := fun q : PInf × MR => mChk q.1 q.2) 69 15 (by omega) (by omega) h3 mChkS_69
  rcases Nat.lt_or_ge z 93 with q | q
  · exact allAt (p := fun q : PInf × MR => mChk q.1 q.2) 84 9 (by omega) (by omega) h3 mChkS_84
  rcases Nat.lt_or_ge z 101 with q | q
  · exact allAt (p := fun q : PInf × MR => mChk q.1 q.2) 93 8 (by omega) (by omega) h3 mChkS_93
  rcases Nat.lt_or_ge z 113 with q | q
  · exact allAt (p := fun q : PInf × MR => mChk q.1 q.2) 101 12 (by omega) (by omega) h3 mChkS_101
  rcases Nat.lt_or_ge z 124 with q | q
  · exact allAt (p := fun q : PInf × MR => mChk q.1 q.2) 113 11 (by omega) (by omega) h3 mChkS_113
  rcases Nat.lt_or_ge z 134 with q | q
  · exact allAt (p := fun q : PInf × MR => mChk q.1 q.2) 124 10 (by omega) (by omega) h3 mChkS_124
  rcases Nat.lt_or_ge z 144 with q | q
  · exact allAt (p := fun q : PInf × MR => mChk q.1 q.2) 134 10 (by omega) (by omega) h3 mChkS_134
  rcases Nat.lt_or_ge z 156 with q | q
  · exact allAt (p := fun q : PInf × MR => mChk q.1 q.2) 144 12 (by omega) (by omega) h3 mChkS_144
  rcases Nat.lt_or_ge z 167 with q | q
  · exact allAt (p := fun q : PInf × MR => mChk q.1 q.2) 156 11 (by omega) (by omega) h3 mChkS_156
  rcases Nat.lt_or_ge z 175 with q | q
  · exact allAt (p := fun q : PInf × MR => mChk q.1 q.2) 167 8 (by omega) (by omega) h3 mChkS_167
  rcases Nat.lt_or_ge z 184 with q | q
  · exact allAt (p := fun q : PInf × MR => mChk q.1 q.2) 175 9 (by omega) (by omega) h3 mChkS_175
  rcases Nat.lt_or_ge z 185 with q | q
  · exact allAt (p := fun q : PInf × MR => mChk q.1 q.2) 184 1 (by omega) (by omega) h3 mChkS_184
  rcases Nat.lt_or_ge z 186 with q | q
  · exact allAt (p := fun q : PInf × MR => mChk q.1 q.2) 185 1 (by omega) (by omega) h3 mChkS_185
  rcases Nat.lt_or_ge z 195 with q | q
  · exact allAt (p := fun q : PInf × MR => mChk q.1 q.2) 186 9 (by omega) (by omega) h3 mChkS_186
  rcases Nat.lt_or_ge z 201 with q | q
  · exact allAt (p := fun q : PInf × MR => mChk q.1 q.2) 195 6 (by omega) (by omega) h3 mChkS_195
  rcases Nat.lt_or_ge z 202 with q | q
  · exact allAt (p := fun q : PInf × MR => mChk q.1 q.2) 201 1 (by omega) (by omega) h3 mChkS_201
  rcases Nat.lt_or_ge z 213 with q | q
  · exact allAt (p := fun q : PInf × MR => mChk q.1 q.2) 202 11 (by omega) (by omega) h3 mChkS_202
  rcases Nat.lt_or_ge z 222 with q | q
  · exact allAt (p := fun q : PInf × MR => mChk q.1 q.2) 213 9 (by omega) (by omega) h3 mChkS_213
  rcases Nat.lt_or_ge z 230 with q | q
  · exact allAt (p := fun q : PInf × MR => mChk q.1 q.2) 222 8 (by omega) (by omega) h3 mChkS_222
  rcases Nat.lt_or_ge z 237 with q | q
  · exact allAt (p := fun q : PInf × MR => mChk q.1 q.2) 230 7 (by omega) (by omega) h3 mChkS_230
  rcases Nat.lt_or_ge z 238 with q | q
  · exact allAt (p := fun q : PInf × MR => mChk q.1 q.2) 237 1 (by omega) (by omega) h3 mChkS_237
  rcases Nat.lt_or_ge z 239 with q | q
  · exact allAt (p := fun q : PInf × MR => mChk q.1 q.2) 238 1 (by omega) (by omega) h3 mChkS_238
  rcases Nat.lt_or_ge z 248 with q | q
  · exact allAt (p := fun q : PInf × MR => mChk q.1 q.2) 239 9 (by omega) (by omega) h3 mChkS_239
  rcases Nat.lt_or_ge z 255 with q | q
  · exact allAt (p := fun q : PInf × MR => mChk q.1 q.2) 248 7 (by omega) (by omega) h3 mChkS_248
  rcases Nat.lt_or_ge z 265 with q | q
  · exact allAt (p := fun q : PInf × MR => mChk q.1 q.2) 255 10 (by omega) (by omega) h3 mChkS_255
  rcases Nat.lt_or_ge z 272 with q | q
  · exact allAt (p := fun q : PInf × MR => mChk q.1 q.2) 265 7 (by omega) (by omega) h3 mChkS_265
  rcases Nat.lt_or_ge z 280 with q | q
  · exact allAt (p := fun q : PInf × MR => mChk q.1 q.2) 272 8 (by omega) (by omega) h3 mChkS_272
  rcases Nat.lt_or_ge z 287 with q | q
  · exact allAt (p := fun q : PInf × MR => mChk q.1 q.2) 280 7 (by omega) (by omega) h3 mChkS_280
  rcases Nat.lt_or_ge z 295 with q | q
  · exact allAt (p := fun q : PInf × MR => mChk q.1 q.2) 287 8 (by omega) (by omega) h3 mChkS_287
  rcases Nat.lt_or_ge z 301 with q | q
  · exact allAt (p := fun q : PInf × MR => mChk q.1 q.2) 295 6 (by omega) (by omega) h3 mChkS_295
  rcases Nat.lt_or_ge z 308 with q | q
  · exact allAt (p := fun q : PInf × MR => mChk q.1 q.2) 301 7 (by omega) (by omega) h3 mChkS_301
  rcases Nat.lt_or_ge z 314 with q | q
  · exact allAt (p := fun q : PInf × MR => mChk q.1 q.2) 308 6 (by omega) (by omega) h3 mChkS_308
  rcases Nat.lt_or_ge z 321 with q | q
  · exact allAt (p := fun q : PInf × MR => mChk q.1 q.2) 314 7 (by omega) (by omega) h3 mChkS_314
  rcases Nat.lt_or_ge z 322 with q | q
  · exact allAt (p := fun q : PInf × MR => mChk q.1 q.2) 321 1 (by omega) (by omega) h3 mChkS_321
  rcases Nat.lt_or_ge z 323 with q | q
  · exact allAt (p := fun q : PInf × MR => mChk q.1 q.2) 322 1 (by omega) (by omega) h3 mChkS_322
  rcases Nat.lt_or_ge z 325 with q | q
  · exact allAt (p := fun q : PInf × MR => mChk q.1 q.2) 323 2 (by omega) (by omega) h3 mChkS_323
  rcases Nat.lt_or_ge z 326 with q | q
  · exact allAt (p := fun q : PInf × MR => mChk q.1 q.2) 325 1 (by omega) (by omega) h3 mChkS_325
  exact absurd hz (by omega)
theorem mF_at {z : Nat} {m : PInf} {t : MR} (hz : z < 325) (hm : pM[z]? = some m) (ht : pT[z]? = some t) : ∃ q, pMP[z]? = some q ∧ mF m t q = true := by
  have hq : z < pMP.length := by
    have e : pMP.length = 326 := by decide +kernel
    omega
  refine ⟨pMP[z], List.getElem?_eq_getElem hq, ?_⟩
  have h3 : pQ3[z]? = some (m, t, pMP[z]) := by
    unfold pQ3
    rw [List.getElem?_zip_eq_some]
    refine ⟨hm, ?_⟩
    rw [List.getElem?_zip_eq_some]
    exact ⟨ht, List.getElem?_eq_getElem hq⟩
  have key : ∀ a n : Nat, a ≤ z → z < a + n → ((pQ3.drop a).take n).all (fun q => mF q.1 q.2.1 q.2.2) = true → mF m t pMP[z] = true := fun a n h1 h2 h => allAt (p := fun q : PInf × MR × (Nat × Nat × Nat × Nat) => mF q.1 q.2.1 q.2.2) (e := (m, t, pMP[z])) a n h1 h2 h3 h
  rcases Nat.lt_or_ge z 20 with q | q
  · exact key 0 20 (by omega) (by omega) mF_0
  rcases Nat.lt_or_ge z 40 with q | q
  · exact key 20 20 (by omega) (by omega) mF_1
  rcases Nat.lt_or_ge z 60 with q | q
  · exact key 40 20 (by omega) (by omega) mF_2
  rcases Nat.lt_or_ge z 80 with q | q
  · exact key 60 20 (by omega) (by omega) mF_3
  rcases Nat.lt_or_ge z 100 with q | q
  · exact key 80 20 (by omega) (by omega) mF_4
  rcases Nat.lt_or_ge z 120 with q | q
  · exact key 100 20 (by omega) (by omega) mF_5
  rcases Nat.lt_or_ge z 140 with q | q
  · exact key 120 20 (by omega) (by omega) mF_6
  rcases Nat.lt_or_ge z 160 with q | q
  · exact key 140 20 (by omega) (by omega) mF_7
  rcases Nat.lt_or_ge z 180 with q | q
  · exact key 160 20 (by omega) (by omega) mF_8
  rcases Nat.lt_or_ge z 200 with q | q
  · exact key 180 20 (by omega) (by omega) mF_9
  rcases Nat.lt_or_ge z 220 with q | q
  · exact key 200 20 (by omega) (by omega) mF_10
  rcases Nat.lt_or_ge z 240 with q | q
  · exact key 220 20 (by omega) (by omega) mF_11
  rcases Nat.lt_or_ge z 260 with q | q
  · exact key 240 20 (by omega) (by omega) mF_12
  rcases Nat.lt_or_ge z 280 with q | q
  · exact key 260 20 (by omega) (by omega) mF_13
  rcases Nat.lt_or_ge z 300 with q | q
  · exact key 280 20 (by omega) (by omega) mF_14
  rcases Nat.lt_or_ge z 320 with q | q
  · exact key 300 20 (by omega) (by omega) mF_15
  rcases Nat.lt_or_ge z 325 with q | q
  · exact key 320 5 (by omega) (by omega) mF_16
  exact absurd hz (by omega)
theorem ml_at {o : Nat} {xs : List (Nat × Nat × Nat × Nat)} {e : Nat × Nat × Nat × Nat} (ho : pML[o]? = some xs) (he : e ∈ xs) : mlOK o e = true := by
  have hlt : o < 17 := (List.getElem?_eq_some_iff.mp ho).1
  obtain ⟨k, hk⟩ := List.getElem?_of_mem he
  have key : ∀ (a : Nat), a ≤ k → k < a + 40 → mlRow o a 40 = true → mlOK o e = true := by
    intro a h1 h2 h
    unfold mlRow at h
    rw [ho] at h
    exact allAt a 40 h1 h2 hk h
  have hl : k < xs.length := (List.getElem?_eq_some_iff.mp hk).1
  match o, hlt, ho with
  | 0, _, ho =>
    have hx : xs.length = 0 := by have := Option.some.inj ho; rw [← this]; rfl
    exact absurd hl (by omega)
  | 1, _, ho =>
    have hx : xs.length = 25 := by have := Option.some.inj ho; rw [← this]; rfl
    rcases Nat.lt_or_ge k 40 with q | q
    · exact key 0 (by omega) (by omega) mlOK_1_0
    exact absurd hl (by omega)
  | 2, _, ho =>
    have hx : xs.length = 9 := by have := Option.some.inj ho; rw [← this]; rfl
    rcases Nat.lt_or_ge k 40 with q | q
    · exact key 0 (by omega) (by omega) mlOK_2_0
    exact absurd hl (by omega)
  | 3, _, ho =>
    have hx : xs.length = 5 := by have := Option.some.inj ho; rw [← this]; rfl
    rcases Nat.lt_or_ge k 40 with q | q
    · exact key 0 (by omega) (by omega) mlOK_3_0
    exact absurd hl (by omega)
  | 4, _, ho =>
    have hx : xs.length = 11 := by have := Option.some.inj ho; rw [← this]; rfl
    rcases Nat.lt_or_ge k 40 with q | q
    · exact key 0 (by omega) (by omega) mlOK_4_0
    exact absurd hl (by omega)
  | 5, _, ho =>
    have hx : xs.length = 35 := by have := Option.some.inj ho; rw [← this]; rfl
    rcases Nat.lt_or_ge k 40 with q | q
    · exact key 0 (by omega) (by omega) mlOK_5_0
    exact absurd hl (by omega)
  | 6, _, ho =>
    have hx : xs.length = 23 := by have := Option.some.inj ho; rw [← this]; rfl
    rcases Nat.lt_or_ge k 40 with q | q
    · exact key 0 (by omega) (by omega) mlOK_6_0
    exact absurd hl (by omega)
  | 7, _, ho =>
    have hx : xs.length = 8 := by have := Option.some.inj ho; rw [← this]; rfl
    rcases Nat.lt_or_ge k 40 with q | q
    · exact key 0 (by omega) (by omega) mlOK_7_0
    exact absurd hl (by omega)
  | 8, _, ho =>
    have hx : xs.length = 3 := by have := Option.some.inj ho; rw [← this]; rfl
    rcases Nat.lt_or_ge k 40 with q | q
    · exact key 0 (by omega) (by omega) mlOK_8_0
    exact absurd hl (by omega)
  | 9, _, ho =>
    have hx : xs.length = 10 := by have := Option.some.inj ho; rw [← this]; rfl
    rcases Nat.lt_or_ge k 40 with q | q
    · exact key 0 (by omega) (by omega) mlOK_9_0
    exact absurd hl (by omega)
  | 10, _, ho =>
    have hx : xs.length = 6 := by have := Option.some.inj ho; rw [← this]; rfl
    rcases Nat.lt_or_ge k 40 with q | q
    · exact key 0 (by omega) (by omega) mlOK_10_0
    exact absurd hl (by omega)
  | 11, _, ho =>
    have hx : xs.length = 55 := by have := Option.some.inj ho; rw [← this]; rfl
    rcases Nat.lt_or_ge k 40 with q | q
    · exact key 0 (by omega) (by omega) mlOK_11_0
    rcases Nat.lt_or_ge k 80 with q | q
    · exact key 40 (by omega) (by omega) mlOK_11_1
    exact absurd hl (by omega)
  | 12, _, ho =>
    have hx : xs.length = 98 := by have := Option.some.inj ho; rw [← this]; rfl
    rcases Nat.lt_or_ge k 40 with q | q
    · exact key 0 (by omega) (by omega) mlOK_12_0
    rcases Nat.lt_or_ge k 80 with q | q
    · exact key 40 (by omega) (by omega) mlOK_12_1
    rcases Nat.lt_or_ge k 120 with q | q
    · exact key 80 (by omega) (by omega) mlOK_12_2
    exact absurd hl (by omega)
  | 13, _, ho =>
    have hx : xs.length = 84 := by have := Option.some.inj ho; rw [← this]; rfl
    rcases Nat.lt_or_ge k 40 with q | q
    · exact key 0 (by omega) (by omega) mlOK_13_0
    rcases Nat.lt_or_ge k 80 with q | q
    · exact key 40 (by omega) (by omega) mlOK_13_1
    rcases Nat.lt_or_ge k 120 with q | q
    · exact key 80 (by omega) (by omega) mlOK_13_2
    exact absurd hl (by omega)
  | 14, _, ho =>
    have hx : xs.length = 0 := by have := Option.some.inj ho; rw [← this]; rfl
    exact absurd hl (by omega)
  | 15, _, ho =>
    have hx : xs.length = 0 := by have := Option.some.inj ho; rw [← this]; rfl
    exact absurd hl (by omega)
  | 16, _, ho =>
    have hx : xs.length = 0 := by have := Option.some.inj ho; rw [← this]; rfl
    exact absurd hl (by omega)
  | o + 17, h, _ => exact absurd h (by omega)
