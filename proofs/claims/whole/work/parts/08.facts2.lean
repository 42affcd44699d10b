/-! each method, each link, by its number -/
theorem mChk_at {z : Nat} {m : PInf} {t : MR} (hm : pM[z]? = some m) (ht : pT[z]? = some t) : mChk m t = true := by
  have hz : z < 332 := by
    have e : pM.length = 332 := by decide +kernel
    have := (List.getElem?_eq_some_iff.mp hm).1
    omega
  have h3 : pQ[z]? = some (m, t) := by
    unfold pQ
    rw [List.getElem?_zip_eq_some]
    exact ⟨hm, ht⟩
  rcases Nat.lt_or_ge z 10 with q | q
  · exact allAt (p := fun q : PInf × MR => mChk q.1 q.2) 0 10 (by omega) (by omega) h3 mChkS_0
  rcases Nat.lt_or_ge z 24 with q | q
  · exact allAt (p := fun q : PInf × MR => mChk q.1 q.2) 10 14 (by omega) (by omega) h3 mChkS_10
  rcases Nat.lt_or_ge z 33 with q | q
  · exact allAt (p := fun q : PInf × MR => mChk q.1 q.2) 24 9 (by omega) (by omega) h3 mChkS_24
  rcases Nat.lt_or_ge z 43 with q | q
  · exact allAt (p := fun q : PInf × MR => mChk q.1 q.2) 33 10 (by omega) (by omega) h3 mChkS_33
  rcases Nat.lt_or_ge z 50 with q | q
  · exact allAt (p := fun q : PInf × MR => mChk q.1 q.2) 43 7 (by omega) (by omega) h3 mChkS_43
  rcases Nat.lt_or_ge z 60 with q | q
  · exact allAt (p := fun q : PInf × MR => mChk q.1 q.2) 50 10 (by omega) (by omega) h3 mChkS_50
  rcases Nat.lt_or_ge z 69 with q | q
  · exact allAt (p := fun q : PInf × MR => mChk q.1 q.2) 60 9 (by omega) (by omega) h3 mChkS_60
  rcases Nat.lt_or_ge z 84 with q | q
  · exact allAt (p := fun q : PInf × MR => mChk q.1 q.2) 69 15 (by omega) (by omega) h3 mChkS_69
  rcases Nat.lt_or_ge z 96 with q | q
  · exact allAt (p := fun q : PInf × MR => mChk q.1 q.2) 84 12 (by omega) (by omega) h3 mChkS_84
  rcases Nat.lt_or_ge z 104 with q | q
  · exact allAt (p := fun q : PInf × MR => mChk q.1 q.2) 96 8 (by omega) (by omega) h3 mChkS_96
  rcases Nat.lt_or_ge z 116 with q | q
  · exact allAt (p := fun q : PInf × MR => mChk q.1 q.2) 104 12 (by omega) (by omega) h3 mChkS_104
  rcases Nat.lt_or_ge z 127 with q | q
  · exact allAt (p := fun q : PInf × MR => mChk q.1 q.2) 116 11 (by omega) (by omega) h3 mChkS_116
  rcases Nat.lt_or_ge z 138 with q | q
  · exact allAt (p := fun q : PInf × MR => mChk q.1 q.2) 127 11 (by omega) (by omega) h3 mChkS_127
  rcases Nat.lt_or_ge z 150 with q | q
  · exact allAt (p := fun q : PInf × MR => mChk q.1 q.2) 138 12 (by omega) (by omega) h3 mChkS_138
  rcases Nat.lt_or_ge z 162 with q | q
  · exact allAt (p := fun q : PInf × MR => mChk q.1 q.2) 150 12 (by omega) (by omega) h3 mChkS_150
  rcases Nat.lt_or_ge z 173 with q | q
  · exact allAt (p := fun q : PInf × MR => mChk q.1 q.2) 162 11 (by omega) (by omega) h3 mChkS_162
  rcases Nat.lt_or_ge z 181 with q | q
  · exact allAt (p := fun q : PInf × MR => mChk q.1 q.2) 173 8 (by omega) (by omega) h3 mChkS_173
  rcases Nat.lt_or_ge z 190 with q | q
  · exact allAt (p := fun q : PInf × MR => mChk q.1 q.2) 181 9 (by omega) (by omega) h3 mChkS_181
  rcases Nat.lt_or_ge z 191 with q | q
  · exact allAt (p := fun q : PInf × MR => mChk q.1 q.2) 190 1 (by omega) (by omega) h3 mChkS_190
  rcases Nat.lt_or_ge z 192 with q | q
  · exact allAt (p := fun q : PInf × MR => mChk q.1 q.2) 191 1 (by omega) (by omega) h3 mChkS_191
  rcases Nat.lt_or_ge z 201 with q | q
  · exact allAt (p := fun q : PInf × MR => mChk q.1 q.2) 192 9 (by omega) (by omega) h3 mChkS_192
  rcases Nat.lt_or_ge z 207 with q | q
  · exact allAt (p := fun q : PInf × MR => mChk q.1 q.2) 201 6 (by omega) (by omega) h3 mChkS_201
  rcases Nat.lt_or_ge z 208 with q | q
  · exact allAt (p := fun q : PInf × MR => mChk q.1 q.2) 207 1 (by omega) (by omega) h3 mChkS_207
  rcases Nat.lt_or_ge z 219 with q | q
  · exact allAt (p := fun q : PInf × MR => mChk q.1 q.2) 208 11 (by omega) (by omega) h3 mChkS_208
  rcases Nat.lt_or_ge z 228 with q | q
  · exact allAt (p := fun q : PInf × MR => mChk q.1 q.2) 219 9 (by omega) (by omega) h3 mChkS_219
  rcases Nat.lt_or_ge z 236 with q | q
  · exact allAt (p := fun q : PInf × MR => mChk q.1 q.2) 228 8 (by omega) (by omega) h3 mChkS_228
  rcases Nat.lt_or_ge z 243 with q | q
  · exact allAt (p := fun q : PInf × MR => mChk q.1 q.2) 236 7 (by omega) (by omega) h3 mChkS_236
  rcases Nat.lt_or_ge z 244 with q | q
  · exact allAt (p := fun q : PInf × MR => mChk q.1 q.2) 243 1 (by omega) (by omega) h3 mChkS_243
  rcases Nat.lt_or_ge z 245 with q | q
  · exact allAt (p := fun q : PInf × MR => mChk q.1 q.2) 244 1 (by omega) (by omega) h3 mChkS_244
  rcases Nat.lt_or_ge z 254 with q | q
  · exact allAt (p := fun q : PInf × MR => mChk q.1 q.2) 245 9 (by omega) (by omega) h3 mChkS_245
  rcases Nat.lt_or_ge z 261 with q | q
  · exact allAt (p := fun q : PInf × MR => mChk q.1 q.2) 254 7 (by omega) (by omega) h3 mChkS_254
  rcases Nat.lt_or_ge z 271 with q | q
  · exact allAt (p := fun q : PInf × MR => mChk q.1 q.2) 261 10 (by omega) (by omega) h3 mChkS_261
  rcases Nat.lt_or_ge z 278 with q | q
  · exact allAt (p := fun q : PInf × MR => mChk q.1 q.2) 271 7 (by omega) (by omega) h3 mChkS_271
  rcases Nat.lt_or_ge z 286 with q | q
  · exact allAt (p := fun q : PInf × MR => mChk q.1 q.2) 278 8 (by omega) (by omega) h3 mChkS_278
  rcases Nat.lt_or_ge z 293 with q | q
  · exact allAt (p := fun q : PInf × MR => mChk q.1 q.2) 286 7 (by omega) (by omega) h3 mChkS_286
  rcases Nat.lt_or_ge z 301 with q | q
  · exact allAt (p := fun q : PInf × MR => mChk q.1 q.2) 293 8 (by omega) (by omega) h3 mChkS_293
  rcases Nat.lt_or_ge z 307 with q | q
  · exact allAt (p := fun q : PInf × MR => mChk q.1 q.2) 301 6 (by omega) (by omega) h3 mChkS_301
  rcases Nat.lt_or_ge z 314 with q | q
  · exact allAt (p := fun q : PInf × MR => mChk q.1 q.2) 307 7 (by omega) (by omega) h3 mChkS_307
  rcases Nat.lt_or_ge z 320 with q | q
  · exact allAt (p := fun q : PInf × MR => mChk q.1 q.2) 314 6 (by omega) (by omega) h3 mChkS_314
  rcases Nat.lt_or_ge z 327 with q | q
  · exact allAt (p := fun q : PInf × MR => mChk q.1 q.2) 320 7 (by omega) (by omega) h3 mChkS_320
  rcases Nat.lt_or_ge z 328 with q | q
  · exact allAt (p := fun q : PInf × MR => mChk q.1 q.2) 327 1 (by omega) (by omega) h3 mChkS_327
  rcases Nat.lt_or_ge z 329 with q | q
  · exact allAt (p := fun q : PInf × MR => mChk q.1 q.2) 328 1 (by omega) (by omega) h3 mChkS_328
  rcases Nat.lt_or_ge z 331 with q | q
  · exact allAt (p := fun q : PInf × MR => mChk q.1 q.2) 329 2 (by omega) (by omega) h3 mChkS_329
  rcases Nat.lt_or_ge z 332 with q | q
  · exact allAt (p := fun q : PInf × MR => mChk q.1 q.2) 331 1 (by omega) (by omega) h3 mChkS_331
  exact absurd hz (by omega)
theorem mF_at {z : Nat} {m : PInf} {t : MR} (hz : z < 331) (hm : pM[z]? = some m) (ht : pT[z]? = some t) : ∃ q, pMP[z]? = some q ∧ mF m t q = true := by
  have hq : z < pMP.length := by
    have e : pMP.length = 332 := by decide +kernel
    omega
  refine ⟨pMP[z], List.getElem?_eq_getElem hq, ?_⟩
  have h3 : pQ3[z]? = some (m, t, pMP[z]) := by
    unfold pQ3
    rw [List.getElem?_zip_eq_some]
    refine ⟨hm, ?_⟩
    rw [List.getElem?_zip_eq_some]
    exact ⟨ht, List.getElem?_eq_getElem hq⟩
  have key : ∀ a n : Nat, a ≤ z → z < a + n → ((pQ3.drop a).take n).all (fun q => mF q.1 q.2.1 q.2.2) = true → mF m t pMP[z] = true := fun a n h1 h2 h => allAt (p := fun q : PInf × MR × (Nat × Nat × Nat × Nat) => mF q.1 q.2.1 q.2.2) (e := (m, t, pMP[z])) a n h1 h2 h3 h
  rcases Nat.lt_or_ge z 20 with q | q
  · exact key 0 20 (by omega) (by omega) mF_0
  rcases Nat.lt_or_ge z 40 with q | q
  · exact key 20 20 (by omega) (by omega) mF_1
  rcases Nat.lt_or_ge z 60 with q | q
  · exact key 40 20 (by omega) (by omega) mF_2
  rcases Nat.lt_or_ge z 80 with q | q
  · exact key 60 20 (by omega) (by omega) mF_3
  rcases Nat.lt_or_ge z 100 with q | q
  · exact key 80 20 (by omega) (by omega) mF_4
  rcases Nat.lt_or_ge z 120 with q | q
  · exact key 100 20 (by omega) (by omega) mF_5
  rcases Nat.lt_or_ge z 140 with q | q
  · exact key 120 20 (by omega) (by omega) mF_6
  rcases Nat.lt_or_ge z 160 with q | q
  · exact key 140 20 (by omega) (by omega) mF_7
  rcases Nat.lt_or_ge z 180 with q | q
  · exact key 160 20 (by omega) (by omega) mF_8
  rcases Nat.lt_or_ge z 200 with q | q
  · exact key 180 20 (by omega) (by omega) mF_9
  rcases Nat.lt_or_ge z 220 with q | q
  · exact key 200 20 (by omega) (by omega) mF_10
  rcases Nat.lt_or_ge z 240 with q | q
  · exact key 220 20 (by omega) (by omega) mF_11
  rcases Nat.lt_or_ge z 260 with q | q
  · exact key 240 20 (by omega) (by omega) mF_12
  rcases Nat.lt_or_ge z 280 with q | q
  · exact key 260 20 (by omega) (by omega) mF_13
  rcases Nat.lt_or_ge z 300 with q | q
  · exact key 280 20 (by omega) (by omega) mF_14
  rcases Nat.lt_or_ge z 320 with q | q
  · exact key 300 20 (by omega) (by omega) mF_15
  rcases Nat.lt_or_ge z 331 with q | q
  · exact key 320 11 (by omega) (by omega) mF_16
  exact absurd hz (by omega)
theorem ml_at {o : Nat} {xs : List (Nat × Nat × Nat × Nat)} {e : Nat × Nat × Nat × Nat} (ho : pML[o]? = some xs) (he : e ∈ xs) : mlOK o e = true := by
  have hlt : o < 17 := (List.getElem?_eq_some_iff.mp ho).1
  obtain ⟨k, hk⟩ := List.getElem?_of_mem he
  have key : ∀ (a : Nat), a ≤ k → k < a + 40 → mlRow o a 40 = true → mlOK o e = true := by
    intro a h1 h2 h
    unfold mlRow at h
    rw [ho] at h
    exact allAt a 40 h1 h2 hk h
  have hl : k < xs.length := (List.getElem?_eq_some_iff.mp hk).1
  match o, hlt, ho with
  | 0, _, ho =>
    have hx : xs.length = 0 := by have := Option.some.inj ho; rw [← this]; rfl
    exact absurd hl (by omega)
  | 1, _, ho =>
    have hx : xs.length = 25 := by have := Option.some.inj ho; rw [← this]; rfl
    rcases Nat.lt_or_ge k 40 with q | q
    · exact key 0 (by omega) (by omega) mlOK_1_0
    exact absurd hl (by omega)
  | 2, _, ho =>
    have hx : xs.length = 9 := by have := Option.some.inj ho; rw [← this]; rfl
    rcases Nat.lt_or_ge k 40 with q | q
    · exact key 0 (by omega) (by omega) mlOK_2_0
    exact absurd hl (by omega)
  | 3, _, ho =>
    have hx : xs.length = 6 := by have := Option.some.inj ho; rw [← this]; rfl
    rcases Nat.lt_or_ge k 40 with q | q
    · exact key 0 (by omega) (by omega) mlOK_3_0
    exact absurd hl (by omega)
  | 4, _, ho =>
    have hx : xs.length = 11 := by have := Option.some.inj ho; rw [← this]; rfl
    rcases Nat.lt_or_ge k 40 with q | q
    · exact key 0 (by omega) (by omega) mlOK_4_0
    exact absurd hl (by omega)
  | 5, _, ho =>
    have hx : xs.length = 38 := by have := Option.some.inj ho; rw [← this]; rfl
    rcases Nat.lt_or_ge k 40 with q | q
    · exact key 0 (by omega) (by omega) mlOK_5_0
    exact absurd hl (by omega)
  | 6, _, ho =>
    have hx : xs.length = 25 := by have := Option.some.inj ho; rw [← this]; rfl
    rcases Nat.lt_or_ge k 40 with q | q
    · exact key 0 (by omega) (by omega) mlOK_6_0
    exact absurd hl (by omega)
  | 7, _, ho =>
    have hx : xs.length = 8 := by have := Option.some.inj ho; rw [← this]; rfl
    rcases Nat.lt_or_ge k 40 with q | q
    · exact key 0 (by omega) (by omega) mlOK_7_0
    exact absurd hl (by omega)
  | 8, _, ho =>
    have hx : xs.length = 3 := by have := Option.some.inj ho; rw [← this]; rfl
    rcases Nat.lt_or_ge k 40 with q | q
    · exact key 0 (by omega) (by omega) mlOK_8_0
    exact absurd hl (by omega)
  | 9, _, ho =>
    have hx : xs.length = 10 := by have := Option.some.inj ho; rw [← this]; rfl
    rcases Nat.lt_or_ge k 40 with q | q
    · exact key 0 (by omega) (by omega) mlOK_9_0
    exact absurd hl (by omega)
  | 10, _, ho =>
    have hx : xs.length = 6 := by have := Option.some.inj ho; rw [← this]; rfl
    rcases Nat.lt_or_ge k 40 with q | q
    · exact key 0 (by omega) (by omega) mlOK_10_0
    exact absurd hl (by omega)
  | 11, _, ho =>
    have hx : xs.length = 55 := by have := Option.some.inj ho; rw [← this]; rfl
    rcases Nat.lt_or_ge k 40 with q | q
    · exact key 0 (by omega) (by omega) mlOK_11_0
    rcases Nat.lt_or_ge k 80 with q | q
    · exact key 40 (by omega) (by omega) mlOK_11_1
    exact absurd hl (by omega)
  | 12, _, ho =>
    have hx : xs.length = 98 := by have := Option.some.inj ho; rw [← this]; rfl
    rcases Nat.lt_or_ge k 40 with q | q
    · exact key 0 (by omega) (by omega) mlOK_12_0
    rcases Nat.lt_or_ge k 80 with q | q
    · exact key 40 (by omega) (by omega) mlOK_12_1
    rcases Nat.lt_or_ge k 120 with q | q
    · exact key 80 (by omega) (by omega) mlOK_12_2
    exact absurd hl (by omega)
  | 13, _, ho =>
    have hx : xs.length = 84 := by have := Option.some.inj ho; rw [← this]; rfl
    rcases Nat.lt_or_ge k 40 with q | q
    · exact key 0 (by omega) (by omega) mlOK_13_0
    rcases Nat.lt_or_ge k 80 with q | q
    · exact key 40 (by omega) (by omega) mlOK_13_1
    rcases Nat.lt_or_ge k 120 with q | q
    · exact key 80 (by omega) (by omega) mlOK_13_2
    exact absurd hl (by omega)
  | 14, _, ho =>
    have hx : xs.length = 0 := by have := Option.some.inj ho; rw [← this]; rfl
    exact absurd hl (by omega)
  | 15, _, ho =>
    have hx : xs.length = 0 := by have := Option.some.inj ho; rw [← this]; rfl
    exact absurd hl (by omega)
  | 16, _, ho =>
    have hx : xs.length = 0 := by have := Option.some.inj ho; rw [← this]; rfl
    exact absurd hl (by omega)
  | o + 17, h, _ => exact absurd h (by omega)
