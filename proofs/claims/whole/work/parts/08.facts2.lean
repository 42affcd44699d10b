/-! each method, each link, by its number -/
theorem mChk_at {z : Nat} {m : PInf} {t : MR} (hm : pM[z]? = some m) (ht : pT[z]? = some t) : mChk m t = true := by
  have hz : z < 326 := by
    have e : pM.length = 326 := by decide +kernel
    have := (List.getElem?_eq_some_iff.mp hm).1
    omega
  have h3 : pQ[z]? = some (m, t) := by
    unfold pQ
    rw [List.getElem?_zip_eq_some]
    exact ⟨hm, ht⟩
  rcases Nat.lt_or_ge z 10 with q | q
  · exact allAt (p := fun q => mChk q.1 q.2) 0 10 (by omega) (by omega) h3 mChkS_0
  rcases Nat.lt_or_ge z 24 with q | q
  · exact allAt (p := fun q => mChk q.1 q.2) 10 14 (by omega) (by omega) h3 mChkS_10
  rcases Nat.lt_or_ge z 33 with q | q
  · exact allAt (p := fun q => mChk q.1 q.2) 24 9 (by omega) (by omega) h3 mChkS_24
  rcases Nat.lt_or_ge z 43 with q | q
  · exact allAt (p := fun q => mChk q.1 q.2) 33 10 (by omega) (by omega) h3 mChkS_33
  rcases Nat.lt_or_ge z 50 with q | q
  · exact allAt (p := fun q => mChk q.1 q.2) 43 7 (by omega) (by omega) h3 mChkS_43
  rcases Nat.lt_or_ge z 60 with q | q
  · exact allAt (p := fun q => mChk q.1 q.2) 50 10 (by omega) (by omega) h3 mChkS_50
  rcases Nat.lt_or_ge z 69 with q | q
  · exact allAt (p := fun q => mChk q.1 q.2) 60 9 (by omega) (by omega) h3 mChkS_60
  rcases Nat.lt_or_ge z 84 with q | q
  · exact allAt (p := fun q => mChk q.1 q.2) 69 15 (by omega) (by omega) h3 mChkS_69
  rcases Nat.lt_or_ge z 93 with q | q
  · exact allAt (p := fun q => mChk q.1 q.2) 84 9 (by omega) (by omega) h3 mChkS_84
  rcases Nat.lt_or_ge z 101 with q | q
  · exact allAt (p := fun q => mChk q.1 q.2) 93 8 (by omega) (by omega) h3 mChkS_93
  rcases Nat.lt_or_ge z 113 with q | q
  · exact allAt (p := fun q => mChk q.1 q.2) 101 12 (by omega) (by omega) h3 mChkS_101
  rcases Nat.lt_or_ge z 124 with q | q
  · exact allAt (p := fun q => mChk q.1 q.2) 113 11 (by omega) (by omega) h3 mChkS_113
  rcases Nat.lt_or_ge z 134 with q | q
  · exact allAt (p := fun q => mChk q.1 q.2) 124 10 (by omega) (by omega) h3 mChkS_124
  rcases Nat.lt_or_ge z 144 with q | q
  · exact allAt (p := fun q => mChk q.1 q.2) 134 10 (by omega) (by omega) h3 mChkS_134
  rcases Nat.lt_or_ge z 156 with q | q
  · exact allAt (p := fun q => mChk q.1 q.2) 144 12 (by omega) (by omega) h3 mChkS_144
  rcases Nat.lt_or_ge z 167 with q | q
  · exact allAt (p := fun q => mChk q.1 q.2) 156 11 (by omega) (by omega) h3 mChkS_156
  rcases Nat.lt_or_ge z 175 with q | q
  · exact allAt (p := fun q => mChk q.1 q.2) 167 8 (by omega) (by omega) h3 mChkS_167
  rcases Nat.lt_or_ge z 184 with q | q
  · exact allAt (p := fun q => mChk q.1 q.2) 175 9 (by omega) (by omega) h3 mChkS_175
  rcases Nat.lt_or_ge z 185 with q | q
  · exact allAt (p := fun q => mChk q.1 q.2) 184 1 (by omega) (by omega) h3 mChkS_184
  rcases Nat.lt_or_ge z 186 with q | q
  · exact allAt (p := fun q => mChk q.1 q.2) 185 1 (by omega) (by omega) h3 mChkS_185
  rcases Nat.lt_or_ge z 195 with q | q
  · exact allAt (p := fun q => mChk q.1 q.2) 186 9 (by omega) (by omega) h3 mChkS_186
  rcases Nat.lt_or_ge z 201 with q | q
  · exact allAt (p := fun q => mChk q.1 q.2) 195 6 (by omega) (by omega) h3 mChkS_195
  rcases Nat.lt_or_ge z 202 with q | q
  · exact allAt (p := fun q => mChk q.1 q.2) 201 1 (by omega) (by omega) h3 mChkS_201
  rcases Nat.lt_or_ge z 213 with q | q
  · exact allAt (p := fun q => mChk q.1 q.2) 202 11 (by omega) (by omega) h3 mChkS_202
  rcases Nat.lt_or_ge z 222 with q | q
  · exact allAt (p := fun q => mChk q.1 q.2) 213 9 (by omega) (by omega) h3 mChkS_213
  rcases Nat.lt_or_ge z 230 with q | q
  · exact allAt (p := fun q => mChk q.1 q.2) 222 8 (by omega) (by omega) h3 mChkS_222
  rcases Nat.lt_or_ge z 237 with q | q
  · exact allAt (p := fun q => mChk q.1 q.2) 230 7 (by omega) (by omega) h3 mChkS_230
  rcases Nat.lt_or_ge z 238 with q | q
  · exact allAt (p := fun q => mChk q.1 q.2) 237 1 (by omega) (by omega) h3 mChkS_237
  rcases Nat.lt_or_ge z 239 with q | q
  · exact allAt (p := fun q => mChk q.1 q.2) 238 1 (by omega) (by omega) h3 mChkS_238
  rcases Nat.lt_or_ge z 248 with q | q
  · exact allAt (p := fun q => mChk q.1 q.2) 239 9 (by omega) (by omega) h3 mChkS_239
  rcases Nat.lt_or_ge z 255 with q | q
  · exact allAt (p := fun q => mChk q.1 q.2) 248 7 (by omega) (by omega) h3 mChkS_248
  rcases Nat.lt_or_ge z 265 with q | q
  · exact allAt (p := fun q => mChk q.1 q.2) 255 10 (by omega) (by omega) h3 mChkS_255
  rcases Nat.lt_or_ge z 272 with q | q
  · exact allAt (p := fun q => mChk q.1 q.2) 265 7 (by omega) (by omega) h3 mChkS_265
  rcases Nat.lt_or_ge z 280 with q | q
  · exact allAt (p := fun q => mChk q.1 q.2) 272 8 (by omega) (by omega) h3 mChkS_272
  rcases Nat.lt_or_ge z 287 with q | q
  · exact allAt (p := fun q => mChk q.1 q.2) 280 7 (by omega) (by omega) h3 mChkS_280
  rcases Nat.lt_or_ge z 295 with q | q
  · exact allAt (p := fun q => mChk q.1 q.2) 287 8 (by omega) (by omega) h3 mChkS_287
  rcases Nat.lt_or_ge z 301 with q | q
  · exact allAt (p := fun q => mChk q.1 q.2) 295 6 (by omega) (by omega) h3 mChkS_295
  rcases Nat.lt_or_ge z 308 with q | q
  · exact allAt (p := fun q => mChk q.1 q.2) 301 7 (by omega) (by omega) h3 mChkS_301
  rcases Nat.lt_or_ge z 314 with q | q
  · exact allAt (p := fun q => mChk q.1 q.2) 308 6 (by omega) (by omega) h3 mChkS_308
  rcases Nat.lt_or_ge z 321 with q | q
  · exact allAt (p := fun q => mChk q.1 q.2) 314 7 (by omega) (by omega) h3 mChkS_314
  rcases Nat.lt_or_ge z 322 with q | q
  · exact allAt (p := fun q => mChk q.1 q.2) 321 1 (by omega) (by omega) h3 mChkS_321
  rcases Nat.lt_or_ge z 323 with q | q
  · exact allAt (p := fun q => mChk q.1 q.2) 322 1 (by omega) (by omega) h3 mChkS_322
  rcases Nat.lt_or_ge z 325 with q | q
  · exact allAt (p := fun q => mChk q.1 q.2) 323 2 (by omega) (by omega) h3 mChkS_323
  rcases Nat.lt_or_ge z 326 with q | q
  · exact allAt (p := fun q => mChk q.1 q.2) 325 1 (by omega) (by omega) h3 mChkS_325
  exact absurd hz (by omega)
theorem mF_at {z : Nat} {m : PInf} {t : MR} (hz : z < 325) (hm : pM[z]? = some m) (ht : pT[z]? = some t) : ∃ q, pMP[z]? = some q ∧ mF m t q = true := by
  have hq : z < pMP.length := by
    have e : pMP.length = 326 := by decide +kernel
    omega
  refine ⟨pMP[z], List.getElem?_eq_getElem hq, ?_⟩
  have h3 : pQ3[z]? = some (m, t, pMP[z]) := by
    unfold pQ3
    rw [List.getElem?_zip_eq_some]
    refine ⟨hm, ?_⟩
    rw [List.getElem?_zip_eq_some]
    exact ⟨ht, List.getElem?_eq_getElem hq⟩
  rcases Nat.lt_or_ge z 20 with q | q
  · exact allAt (p := fun q => mF q.1 q.2.1 q.2.2) 0 20 (by omega) (by omega) h3 mF_0
  rcases Nat.lt_or_ge z 40 with q | q
  · exact allAt (p := fun q => mF q.1 q.2.1 q.2.2) 20 20 (by omega) (by omega) h3 mF_1
  rcases Nat.lt_or_ge z 60 with q | q
  · exact allAt (p := fun q => mF q.1 q.2.1 q.2.2) 40 20 (by omega) (by omega) h3 mF_2
  rcases Nat.lt_or_ge z 80 with q | q
  · exact allAt (p := fun q => mF q.1 q.2.1 q.2.2) 60 20 (by omega) (by omega) h3 mF_3
  rcases Nat.lt_or_ge z 100 with q | q
  · exact allAt (p := fun q => mF q.1 q.2.1 q.2.2) 80 20 (by omega) (by omega) h3 mF_4
  rcases Nat.lt_or_ge z 120 with q | q
  · exact allAt (p := fun q => mF q.1 q.2.1 q.2.2) 100 20 (by omega) (by omega) h3 mF_5
  rcases Nat.lt_or_ge z 140 with q | q
  · exact allAt (p := fun q => mF q.1 q.2.1 q.2.2) 120 20 (by omega) (by omega) h3 mF_6
  rcases Nat.lt_or_ge z 160 with q | q
  · exact allAt (p := fun q => mF q.1 q.2.1 q.2.2) 140 20 (by omega) (by omega) h3 mF_7
  rcases Nat.lt_or_ge z 180 with q | q
  · exact allAt (p := fun q => mF q.1 q.2.1 q.2.2) 160 20 (by omega) (by omega) h3 mF_8
  rcases Nat.lt_or_ge z 200 with q | q
  · exact allAt (p := fun q => mF q.1 q.2.1 q.2.2) 180 20 (by omega) (by omega) h3 mF_9
  rcases Nat.lt_or_ge z 220 with q | q
  · exact allAt (p := fun q => mF q.1 q.2.1 q.2.2) 200 20 (by omega) (by omega) h3 mF_10
  rcases Nat.lt_or_ge z 240 with q | q
  · exact allAt (p := fun q => mF q.1 q.2.1 q.2.2) 220 20 (by omega) (by omega) h3 mF_11
  rcases Nat.lt_or_ge z 260 with q | q
  · exact allAt (p := fun q => mF q.1 q.2.1 q.2.2) 240 20 (by omega) (by omega) h3 mF_12
  rcases Nat.lt_or_ge z 280 with q | q
  · exact allAt (p := fun q => mF q.1 q.2.1 q.2.2) 260 20 (by omega) (by omega) h3 mF_13
  rcases Nat.lt_or_ge z 300 with q | q
  · exact allAt (p := fun q => mF q.1 q.2.1 q.2.2) 280 20 (by omega) (by omega) h3 mF_14
  rcases Nat.lt_or_ge z 320 with q | q
  · exact allAt (p := fun q => mF q.1 q.2.1 q.2.2) 300 20 (by omega) (by omega) h3 mF_15
  rcases Nat.lt_or_ge z 325 with q | q
  · exact allAt (p := fun q => mF q.1 q.2.1 q.2.2) 320 5 (by omega) (by omega) h3 mF_16
  exact absurd hz (by omega)
theorem ml_at {o : Nat} {xs : List (Nat × Nat × Nat × Nat)} {e : Nat × Nat × Nat × Nat} (ho : pML[o]? = some xs) (he : e ∈ xs) : mlOK o e = true := by
  have hlt : o < 17 := (List.getElem?_eq_some_iff.mp ho).1
  obtain ⟨k, hk⟩ := List.getElem?_of_mem he
  have key : ∀ (a : Nat), a ≤ k → k < a + 40 → mlRow o a 40 = true → mlOK o e = true := by
    intro a h1 h2 h
    unfold mlRow at h
    rw [ho] at h
    exact allAt a 40 h1 h2 hk h
  have hl : k < xs.length := (List.getElem?_eq_some_iff.mp hk).1
  match o, hlt, ho with
  | 0, _, ho =>
    have hx : xs.length = 0 := by have := Option.some.inj ho; rw [← this]; rfl
    exact absurd hl (by omega)
  | 1, _, ho =>
    have hx : xs.length = 25 := by have := Option.some.inj ho; rw [← this]; rfl
    rcases Nat.lt_or_ge k 40 with q | q
    · exact key 0 (by omega) (by omega) mlOK_1_0
    exact absurd hl (by omega)
  | 2, _, ho =>
    have hx : xs.length = 9 := by have := Option.some.inj ho; rw [← this]; rfl
    rcases Nat.lt_or_ge k 40 with q | q
    · exact key 0 (by omega) (by omega) mlOK_2_0
    exact absurd hl (by omega)
  | 3, _, ho =>
    have hx : xs.length = 5 := by have := Option.some.inj ho; rw [← this]; rfl
    rcases Nat.lt_or_ge k 40 with q | q
    · exact key 0 (by omega) (by omega) mlOK_3_0
    exact absurd hl (by omega)
  | 4, _, ho =>
    have hx : xs.length = 11 := by have := Option.some.inj ho; rw [← this]; rfl
    rcases Nat.lt_or_ge k 40 with q | q
    · exact key 0 (by omega) (by omega) mlOK_4_0
    exact absurd hl (by omega)
  | 5, _, ho =>
    have hx : xs.length = 35 := by have := Option.some.inj ho; rw [← this]; rfl
    rcases Nat.lt_or_ge k 40 with q | q
    · exact key 0 (by omega) (by omega) mlOK_5_0
    exact absurd hl (by omega)
  | 6, _, ho =>
    have hx : xs.length = 23 := by have := Option.some.inj ho; rw [← this]; rfl
    rcases Nat.lt_or_ge k 40 with q | q
    · exact key 0 (by omega) (by omega) mlOK_6_0
    exact absurd hl (by omega)
  | 7, _, ho =>
    have hx : xs.length = 8 := by have := Option.some.inj ho; rw [← this]; rfl
    rcases Nat.lt_or_ge k 40 with q | q
    · exact key 0 (by omega) (by omega) mlOK_7_0
    exact absurd hl (by omega)
  | 8, _, ho =>
    have hx : xs.length = 3 := by have := Option.some.inj ho; rw [← this]; rfl
    rcases Nat.lt_or_ge k 40 with q | q
    · exact key 0 (by omega) (by omega) mlOK_8_0
    exact absurd hl (by omega)
  | 9, _, ho =>
    have hx : xs.length = 10 := by have := Option.some.inj ho; rw [← this]; rfl
    rcases Nat.lt_or_ge k 40 with q | q
    · exact key 0 (by omega) (by omega) mlOK_9_0
    exact absurd hl (by omega)
  | 10, _, ho =>
    have hx : xs.length = 6 := by have := Option.some.inj ho; rw [← this]; rfl
    rcases Nat.lt_or_ge k 40 with q | q
    · exact key 0 (by omega) (by omega) mlOK_10_0
    exact absurd hl (by omega)
  | 11, _, ho =>
    have hx : xs.length = 55 := by have := Option.some.inj ho; rw [← this]; rfl
    rcases Nat.lt_or_ge k 40 with q | q
    · exact key 0 (by omega) (by omega) mlOK_11_0
    rcases Nat.lt_or_ge k 80 with q | q
    · exact key 40 (by omega) (by omega) mlOK_11_1
    exact absurd hl (by omega)
  | 12, _, ho =>
    have hx : xs.length = 98 := by have := Option.some.inj ho; rw [← this]; rfl
    rcases Nat.lt_or_ge k 40 with q | q
    · exact key 0 (by omega) (by omega) mlOK_12_0
    rcases Nat.lt_or_ge k 80 with q | q
    · exact key 40 (by omega) (by omega) mlOK_12_1
    rcases Nat.lt_or_ge k 120 with q | q
    · exact key 80 (by omega) (by omega) mlOK_12_2
    exact absurd hl (by omega)
  | 13, _, ho =>
    have hx : xs.length = 84 := by have := Option.some.inj ho; rw [← this]; rfl
    rcases Nat.lt_or_ge k 40 with q | q
    · exact key 0 (by omega) (by omega) mlOK_13_0
    rcases Nat.lt_or_ge k 80 with q | q
    · exact key 40 (by omega) (by omega) mlOK_13_1
    rcases Nat.lt_or_ge k 120 with q | q
    · exact key 80 (by omega) (by omega) mlOK_13_2
    exact absurd hl (by omega)
  | 14, _, ho =>
    have hx : xs.length = 0 := by have := Option.some.inj ho; rw [← this]; rfl
    exact absurd hl (by omega)
  | 15, _, ho =>
    have hx : xs.length = 0 := by have := Option.some.inj ho; rw [← this]; rfl
    exact absurd hl (by omega)
  | 16, _, ho =>
    have hx : xs.length = 0 := by have := Option.some.inj ho; rw [← this]; rfl
    exact absurd hl (by omega)
  | o + 17, h, _ => exact absurd h (by omega)
theorem cd_0 : ∀ m ∈ (pM.drop 0).take 20, Cond.code m.1 m.2.1 m.2.2.1 m.2.2.2.1 ∈ lw_tbl := by
  show ∀ m ∈ [m_A_init, m_Stock_init, m_World_init, m_Book_init, m_Texts_init, m_Law_init, m_Table_init, m_Reader_init, m_Hours_init, m_Port_init, m_Matching_init, m_Riddles_init, m_Riddles_fillLost, m_Arrays_fill, m_A_state, m_A_forget, m_A_person, m_World_addPerson, m_A_within, m_A_alias], _
  exact List.forall_mem_cons.mpr ⟨List.mem_of_getElem? (i := 182) rfl, List.forall_mem_cons.mpr ⟨List.mem_of_getElem? (i := 190) rfl, List.forall_mem_cons.mpr ⟨List.mem_of_getElem? (i := 196) rfl, List.forall_mem_cons.mpr ⟨List.mem_of_getElem? (i := 310) rfl, List.forall_mem_cons.mpr ⟨List.mem_of_getElem? (i := 320) rfl, List.forall_mem_cons.mpr ⟨List.mem_of_getElem? (i := 326) rfl, List.forall_mem_cons.mpr ⟨List.mem_of_getElem? (i := 332) rfl, List.forall_mem_cons.mpr ⟨List.mem_of_getElem? (i := 472) rfl, List.forall_mem_cons.mpr ⟨List.mem_of_getElem? (i := 520) rfl, List.forall_mem_cons.mpr ⟨List.mem_of_getElem? (i := 539) rfl, List.forall_mem_cons.mpr ⟨List.mem_of_getElem? (i := 545) rfl, List.forall_mem_cons.mpr ⟨List.mem_of_getElem? (i := 571) rfl, List.forall_mem_cons.mpr ⟨List.mem_of_getElem? (i := 578) rfl, List.forall_mem_cons.mpr ⟨List.mem_of_getElem? (i := 581) rfl, List.forall_mem_cons.mpr ⟨List.mem_of_getElem? (i := 656) rfl, List.forall_mem_cons.mpr ⟨List.mem_of_getElem? (i := 660) rfl, List.forall_mem_cons.mpr ⟨List.mem_of_getElem? (i := 664) rfl, List.forall_mem_cons.mpr ⟨List.mem_of_getElem? (i := 668) rfl, List.forall_mem_cons.mpr ⟨List.mem_of_getElem? (i := 671) rfl, List.forall_mem_cons.mpr ⟨List.mem_of_getElem? (i := 675) rfl, fun _ h => absurd h List.not_mem_nil⟩⟩⟩⟩⟩⟩⟩⟩⟩⟩⟩⟩⟩⟩⟩⟩⟩⟩⟩⟩
theorem cd_1 : ∀ m ∈ (pM.drop 20).take 20, Cond.code m.1 m.2.1 m.2.2.1 m.2.2.2.1 ∈ lw_tbl := by
  show ∀ m ∈ [m_World_addAlias, m_World_isPerson, m_A_set, m_World_change0, m_World_change1, m_A_act, m_World_isAlias, m_A_keepPast, m_World_become, m_World_walkOut, m_World_lieDown, m_A_pay, m_Book_write, m_A_hours, m_Hours_pass, m_Hours_keepDiary, m_Table_at, m_Hours_keepLine, m_World_give, m_Hours_share], _
  exact List.forall_mem_cons.mpr ⟨List.mem_of_getElem? (i := 679) rfl, List.forall_mem_cons.mpr ⟨List.mem_of_getElem? (i := 683) rfl, List.forall_mem_cons.mpr ⟨List.mem_of_getElem? (i := 687) rfl, List.forall_mem_cons.mpr ⟨List.mem_of_getElem? (i := 691) rfl, List.forall_mem_cons.mpr ⟨List.mem_of_getElem? (i := 694) rfl, List.forall_mem_cons.mpr ⟨List.mem_of_getElem? (i := 698) rfl, List.forall_mem_cons.mpr ⟨List.mem_of_getElem? (i := 702) rfl, List.forall_mem_cons.mpr ⟨List.mem_of_getElem? (i := 707) rfl, List.forall_mem_cons.mpr ⟨List.mem_of_getElem? (i := 711) rfl, List.forall_mem_cons.mpr ⟨List.mem_of_getElem? (i := 721) rfl, List.forall_mem_cons.mpr ⟨List.mem_of_getElem? (i := 725) rfl, List.forall_mem_cons.mpr ⟨List.mem_of_getElem? (i := 729) rfl, List.forall_mem_cons.mpr ⟨List.mem_of_getElem? (i := 734) rfl, List.forall_mem_cons.mpr ⟨List.mem_of_getElem? (i := 738) rfl, List.forall_mem_cons.mpr ⟨List.mem_of_getElem? (i := 742) rfl, List.forall_mem_cons.mpr ⟨List.mem_of_getElem? (i := 746) rfl, List.forall_mem_cons.mpr ⟨List.mem_of_getElem? (i := 750) rfl, List.forall_mem_cons.mpr ⟨List.mem_of_getElem? (i := 754) rfl, List.forall_mem_cons.mpr ⟨List.mem_of_getElem? (i := 761) rfl, List.forall_mem_cons.mpr ⟨List.mem_of_getElem? (i := 768) rfl, fun _ h => absurd h List.not_mem_nil⟩⟩⟩⟩⟩⟩⟩⟩⟩⟩⟩⟩⟩⟩⟩⟩⟩⟩⟩⟩
theorem cd_2 : ∀ m ∈ (pM.drop 40).take 20, Cond.code m.1 m.2.1 m.2.2.1 m.2.2.2.1 ∈ lw_tbl := by
  show ∀ m ∈ [m_Hours_shareOut, m_Texts_holds, m_Hours_sendCousins, m_Hours_goesHimself, m_World_charge, m_Hours_note, m_Hours_beSeen, m_Law_tells, m_Law_untold, m_Law_worth, m_Law_wordWorth, m_World_othersBeside, m_World_outIn, m_Integer_bitCount, m_Law_joined, m_Hours_isSeen, m_World_draw, m_World_meetsItsOwn, m_World_aliasesOf, m_Hours_earn], _
  exact List.forall_mem_cons.mpr ⟨List.mem_of_getElem? (i := 772) rfl, List.forall_mem_cons.mpr ⟨List.mem_of_getElem? (i := 776) rfl, List.forall_mem_cons.mpr ⟨List.mem_of_getElem? (i := 781) rfl, List.forall_mem_cons.mpr ⟨List.mem_of_getElem? (i := 785) rfl, List.forall_mem_cons.mpr ⟨List.mem_of_getElem? (i := 789) rfl, List.forall_mem_cons.mpr ⟨List.mem_of_getElem? (i := 793) rfl, List.forall_mem_cons.mpr ⟨List.mem_of_getElem? (i := 798) rfl, List.forall_mem_cons.mpr ⟨List.mem_of_getElem? (i := 802) rfl, List.forall_mem_cons.mpr ⟨List.mem_of_getElem? (i := 805) rfl, List.forall_mem_cons.mpr ⟨List.mem_of_getElem? (i := 810) rfl, List.forall_mem_cons.mpr ⟨List.mem_of_getElem? (i := 813) rfl, List.forall_mem_cons.mpr ⟨List.mem_of_getElem? (i := 817) rfl, List.forall_mem_cons.mpr ⟨List.mem_of_getElem? (i := 821) rfl, List.forall_mem_cons.mpr ⟨List.mem_of_getElem? (i := 824) rfl, List.forall_mem_cons.mpr ⟨List.mem_of_getElem? (i := 830) rfl, List.forall_mem_cons.mpr ⟨List.mem_of_getElem? (i := 838) rfl, List.forall_mem_cons.mpr ⟨List.mem_of_getElem? (i := 842) rfl, List.forall_mem_cons.mpr ⟨List.mem_of_getElem? (i := 848) rfl, List.forall_mem_cons.mpr ⟨List.mem_of_getElem? (i := 852) rfl, List.forall_mem_cons.mpr ⟨List.mem_of_getElem? (i := 857) rfl, fun _ h => absurd h List.not_mem_nil⟩⟩⟩⟩⟩⟩⟩⟩⟩⟩⟩⟩⟩⟩⟩⟩⟩⟩⟩⟩
theorem cd_3 : ∀ m ∈ (pM.drop 60).take 20, Cond.code m.1 m.2.1 m.2.2.1 m.2.2.2.1 ∈ lw_tbl := by
  show ∀ m ∈ [m_Hours_strikeOff, m_Hours_turn, m_A_feed, m_Reader_hasRoom, m_Reader_take, m_A_end, m_A_text, m_Reader_read, m_Reader_cutIntoTokens, m_Reader_isLetter, m_Reader_keyword, m_Reader_matches, m_Reader_addToken, m_Reader_isDigit, m_Reader_numberAt, m_Texts_clear, m_Law_clear, m_Table_wipe, m_Texts_table, m_Reader_lawLine], _
  exact List.forall_mem_cons.mpr ⟨List.mem_of_getElem? (i := 861) rfl, List.forall_mem_cons.mpr ⟨List.mem_of_getElem? (i := 865) rfl, List.forall_mem_cons.mpr ⟨List.mem_of_getElem? (i := 870) rfl, List.forall_mem_cons.mpr ⟨List.mem_of_getElem? (i := 874) rfl, List.forall_mem_cons.mpr ⟨List.mem_of_getElem? (i := 878) rfl, List.forall_mem_cons.mpr ⟨List.mem_of_getElem? (i := 882) rfl, List.forall_mem_cons.mpr ⟨List.mem_of_getElem? (i := 886) rfl, List.forall_mem_cons.mpr ⟨List.mem_of_getElem? (i := 890) rfl, List.forall_mem_cons.mpr ⟨List.mem_of_getElem? (i := 895) rfl, List.forall_mem_cons.mpr ⟨List.mem_of_getElem? (i := 898) rfl, List.forall_mem_cons.mpr ⟨List.mem_of_getElem? (i := 902) rfl, List.forall_mem_cons.mpr ⟨List.mem_of_getElem? (i := 955) rfl, List.forall_mem_cons.mpr ⟨List.mem_of_getElem? (i := 959) rfl, List.forall_mem_cons.mpr ⟨List.mem_of_getElem? (i := 962) rfl, List.forall_mem_cons.mpr ⟨List.mem_of_getElem? (i := 966) rfl, List.forall_mem_cons.mpr ⟨List.mem_of_getElem? (i := 970) rfl, List.forall_mem_cons.mpr ⟨List.mem_of_getElem? (i := 974) rfl, List.forall_mem_cons.mpr ⟨List.mem_of_getElem? (i := 978) rfl, List.forall_mem_cons.mpr ⟨List.mem_of_getElem? (i := 982) rfl, List.forall_mem_cons.mpr ⟨List.mem_of_getElem? (i := 987) rfl, fun _ h => absurd h List.not_mem_nil⟩⟩⟩⟩⟩⟩⟩⟩⟩⟩⟩⟩⟩⟩⟩⟩⟩⟩⟩⟩
theorem cd_4 : ∀ m ∈ (pM.drop 80).take 20, Cond.code m.1 m.2.1 m.2.2.1 m.2.2.2.1 ∈ lw_tbl := by
  show ∀ m ∈ [m_Reader_fail, m_Reader_opensLine, m_Reader_isKeyword, m_Table_isFull, m_Reader_step, m_Reader_sum, m_Reader_unit, m_Law_add, m_Reader_isReckoning, m_Reader_isSign, m_Reader_part, m_Reader_condition, m_Reader_single, m_Reader_stepSign, m_Reader_comparison, m_Table_putWide, m_Table_cell, m_Reader_shareLine, m_Reader_stepNumber, m_Reader_stepKeyword], _
  exact List.forall_mem_cons.mpr ⟨List.mem_of_getElem? (i := 991) rfl, List.forall_mem_cons.mpr ⟨List.mem_of_getElem? (i := 995) rfl, List.forall_mem_cons.mpr ⟨List.mem_of_getElem? (i := 999) rfl, List.forall_mem_cons.mpr ⟨List.mem_of_getElem? (i := 1003) rfl, List.forall_mem_cons.mpr ⟨List.mem_of_getElem? (i := 1007) rfl, List.forall_mem_cons.mpr ⟨List.mem_of_getElem? (i := 1011) rfl, List.forall_mem_cons.mpr ⟨List.mem_of_getElem? (i := 1015) rfl, List.forall_mem_cons.mpr ⟨List.mem_of_getElem? (i := 1019) rfl, List.forall_mem_cons.mpr ⟨List.mem_of_getElem? (i := 1023) rfl, List.forall_mem_cons.mpr ⟨List.mem_of_getElem? (i := 1027) rfl, List.forall_mem_cons.mpr ⟨List.mem_of_getElem? (i := 1031) rfl, List.forall_mem_cons.mpr ⟨List.mem_of_getElem? (i := 1035) rfl, List.forall_mem_cons.mpr ⟨List.mem_of_getElem? (i := 1039) rfl, List.forall_mem_cons.mpr ⟨List.mem_of_getElem? (i := 1043) rfl, List.forall_mem_cons.mpr ⟨List.mem_of_getElem? (i := 1047) rfl, List.forall_mem_cons.mpr ⟨List.mem_of_getElem? (i := 1051) rfl, List.forall_mem_cons.mpr ⟨List.mem_of_getElem? (i := 1056) rfl, List.forall_mem_cons.mpr ⟨List.mem_of_getElem? (i := 1060) rfl, List.forall_mem_cons.mpr ⟨List.mem_of_getElem? (i := 1064) rfl, List.forall_mem_cons.mpr ⟨List.mem_of_getElem? (i := 1068) rfl, fun _ h => absurd h List.not_mem_nil⟩⟩⟩⟩⟩⟩⟩⟩⟩⟩⟩⟩⟩⟩⟩⟩⟩⟩⟩⟩
theorem cd_5 : ∀ m ∈ (pM.drop 100).take 20, Cond.code m.1 m.2.1 m.2.2.1 m.2.2.2.1 ∈ lw_tbl := by
  show ∀ m ∈ [m_Reader_diaryLine, m_Reader_countOf, m_Reader_wayLine, m_Table_put, m_Texts_take, m_Law_become, m_Table_become, m_A_fault, m_A_of, m_A_who, m_A_street, m_Port_neighbours, m_Port_drawMap, m_A_book, m_Book_cell, m_A_goes, m_World_purses, m_A_keeps, m_A_sighted, m_A_persons], _
  exact List.forall_mem_cons.mpr ⟨List.mem_of_getElem? (i := 1072) rfl, List.forall_mem_cons.mpr ⟨List.mem_of_getElem? (i := 1076) rfl, List.forall_mem_cons.mpr ⟨List.mem_of_getElem? (i := 1080) rfl, List.forall_mem_cons.mpr ⟨List.mem_of_getElem? (i := 1084) rfl, List.forall_mem_cons.mpr ⟨List.mem_of_getElem? (i := 1089) rfl, List.forall_mem_cons.mpr ⟨List.mem_of_getElem? (i := 1093) rfl, List.forall_mem_cons.mpr ⟨List.mem_of_getElem? (i := 1097) rfl, List.forall_mem_cons.mpr ⟨List.mem_of_getElem? (i := 1105) rfl, List.forall_mem_cons.mpr ⟨List.mem_of_getElem? (i := 1109) rfl, List.forall_mem_cons.mpr ⟨List.mem_of_getElem? (i := 1114) rfl, List.forall_mem_cons.mpr ⟨List.mem_of_getElem? (i := 1119) rfl, List.forall_mem_cons.mpr ⟨List.mem_of_getElem? (i := 1124) rfl, List.forall_mem_cons.mpr ⟨List.mem_of_getElem? (i := 1128) rfl, List.forall_mem_cons.mpr ⟨List.mem_of_getElem? (i := 1135) rfl, List.forall_mem_cons.mpr ⟨List.mem_of_getElem? (i := 1139) rfl, List.forall_mem_cons.mpr ⟨List.mem_of_getElem? (i := 1143) rfl, List.forall_mem_cons.mpr ⟨List.mem_of_getElem? (i := 1147) rfl, List.forall_mem_cons.mpr ⟨List.mem_of_getElem? (i := 1151) rfl, List.forall_mem_cons.mpr ⟨List.mem_of_getElem? (i := 1155) rfl, List.forall_mem_cons.mpr ⟨List.mem_of_getElem? (i := 1161) rfl, fun _ h => absurd h List.not_mem_nil⟩⟩⟩⟩⟩⟩⟩⟩⟩⟩⟩⟩⟩⟩⟩⟩⟩⟩⟩⟩
theorem cd_6 : ∀ m ∈ (pM.drop 120).take 20, Cond.code m.1 m.2.1 m.2.2.1 m.2.2.2.1 ∈ lw_tbl := by
  show ∀ m ∈ [m_Port_fewestPersons, m_Port_canFollow, m_Port_minutesOnMap, m_Port_besideAny, m_Matching_allow, m_Matching_most, m_Matching_finds, m_Port_minutes, m_A_pair, m_A_names, m_Riddles_groups, m_Riddles_groupOf, m_Riddles_rename, m_Riddles_groupsCanBe, m_Riddles_fewestNamed, m_Riddles_placeName, m_A_says, m_A_speakers, m_Riddles_trueSpeakers, m_Riddles_canSpeakTrue], _
  exact List.forall_mem_cons.mpr ⟨List.mem_of_getElem? (i := 1165) rfl, List.forall_mem_cons.mpr ⟨List.mem_of_getElem? (i := 1169) rfl, List.forall_mem_cons.mpr ⟨List.mem_of_getElem? (i := 1173) rfl, List.forall_mem_cons.mpr ⟨List.mem_of_getElem? (i := 1177) rfl, List.forall_mem_cons.mpr ⟨List.mem_of_getElem? (i := 1181) rfl, List.forall_mem_cons.mpr ⟨List.mem_of_getElem? (i := 1186) rfl, List.forall_mem_cons.mpr ⟨List.mem_of_getElem? (i := 1191) rfl, List.forall_mem_cons.mpr ⟨List.mem_of_getElem? (i := 1195) rfl, List.forall_mem_cons.mpr ⟨List.mem_of_getElem? (i := 1199) rfl, List.forall_mem_cons.mpr ⟨List.mem_of_getElem? (i := 1203) rfl, List.forall_mem_cons.mpr ⟨List.mem_of_getElem? (i := 1207) rfl, List.forall_mem_cons.mpr ⟨List.mem_of_getElem? (i := 1212) rfl, List.forall_mem_cons.mpr ⟨List.mem_of_getElem? (i := 1219) rfl, List.forall_mem_cons.mpr ⟨List.mem_of_getElem? (i := 1223) rfl, List.forall_mem_cons.mpr ⟨List.mem_of_getElem? (i := 1228) rfl, List.forall_mem_cons.mpr ⟨List.mem_of_getElem? (i := 1233) rfl, List.forall_mem_cons.mpr ⟨List.mem_of_getElem? (i := 1237) rfl, List.forall_mem_cons.mpr ⟨List.mem_of_getElem? (i := 1241) rfl, List.forall_mem_cons.mpr ⟨List.mem_of_getElem? (i := 1245) rfl, List.forall_mem_cons.mpr ⟨List.mem_of_getElem? (i := 1249) rfl, fun _ h => absurd h List.not_mem_nil⟩⟩⟩⟩⟩⟩⟩⟩⟩⟩⟩⟩⟩⟩⟩⟩⟩⟩⟩⟩
theorem cd_7 : ∀ m ∈ (pM.drop 140).take 20, Cond.code m.1 m.2.1 m.2.2.1 m.2.2.2.1 ∈ lw_tbl := by
  show ∀ m ∈ [m_A_vote, m_A_swings, m_Riddles_neverSwing, m_Riddles_swingsOf, m_Riddles_weightOf, m_A_least, m_Texts_busiest, m_Port_watched, m_A_birthdays, m_Riddles_together, m_Riddles_commonDivisor, m_A_letter, m_A_notes, m_Riddles_shift, m_Riddles_shiftAt, m_Riddles_mirrored, m_A_boot, m_A_bed, m_A_beds, m_Riddles_bootsAbed], _
  exact List.forall_mem_cons.mpr ⟨List.mem_of_getElem? (i := 1254) rfl, List.forall_mem_cons.mpr ⟨List.mem_of_getElem? (i := 1258) rfl, List.forall_mem_cons.mpr ⟨List.mem_of_getElem? (i := 1262) rfl, List.forall_mem_cons.mpr ⟨List.mem_of_getElem? (i := 1266) rfl, List.forall_mem_cons.mpr ⟨List.mem_of_getElem? (i := 1270) rfl, List.forall_mem_cons.mpr ⟨List.mem_of_getElem? (i := 1275) rfl, List.forall_mem_cons.mpr ⟨List.mem_of_getElem? (i := 1279) rfl, List.forall_mem_cons.mpr ⟨List.mem_of_getElem? (i := 1284) rfl, List.forall_mem_cons.mpr ⟨List.mem_of_getElem? (i := 1290) rfl, List.forall_mem_cons.mpr ⟨List.mem_of_getElem? (i := 1294) rfl, List.forall_mem_cons.mpr ⟨List.mem_of_getElem? (i := 1297) rfl, List.forall_mem_cons.mpr ⟨List.mem_of_getElem? (i := 1304) rfl, List.forall_mem_cons.mpr ⟨List.mem_of_getElem? (i := 1308) rfl, List.forall_mem_cons.mpr ⟨List.mem_of_getElem? (i := 1312) rfl, List.forall_mem_cons.mpr ⟨List.mem_of_getElem? (i := 1316) rfl, List.forall_mem_cons.mpr ⟨List.mem_of_getElem? (i := 1323) rfl, List.forall_mem_cons.mpr ⟨List.mem_of_getElem? (i := 1327) rfl, List.forall_mem_cons.mpr ⟨List.mem_of_getElem? (i := 1331) rfl, List.forall_mem_cons.mpr ⟨List.mem_of_getElem? (i := 1335) rfl, List.forall_mem_cons.mpr ⟨List.mem_of_getElem? (i := 1339) rfl, fun _ h => absurd h List.not_mem_nil⟩⟩⟩⟩⟩⟩⟩⟩⟩⟩⟩⟩⟩⟩⟩⟩⟩⟩⟩⟩
theorem cd_8 : ∀ m ∈ (pM.drop 160).take 20, Cond.code m.1 m.2.1 m.2.2.1 m.2.2.2.1 ∈ lw_tbl := by
  show ∀ m ∈ [m_Riddles_allowBeds, m_Riddles_bedOf, m_Matching_firstPlace, m_Matching_leastPlace, m_A_box, m_A_named, m_Riddles_rows, m_Riddles_choices, m_A_net, m_Port_bestCatch, m_A_hoop, m_A_loan, m_A_settled, m_Riddles_fewestGifts, m_Riddles_toGet, m_A_game, m_Riddles_goodTake, m_Riddles_leavesLost, m_A_undo, m_A_image], _
  exact List.forall_mem_cons.mpr ⟨List.mem_of_getElem? (i := 1343) rfl, List.forall_mem_cons.mpr ⟨List.mem_of_getElem? (i := 1349) rfl, List.forall_mem_cons.mpr ⟨List.mem_of_getElem? (i := 1353) rfl, List.forall_mem_cons.mpr ⟨List.mem_of_getElem? (i := 1358) rfl, List.forall_mem_cons.mpr ⟨List.mem_of_getElem? (i := 1362) rfl, List.forall_mem_cons.mpr ⟨List.mem_of_getElem? (i := 1366) rfl, List.forall_mem_cons.mpr ⟨List.mem_of_getElem? (i := 1370) rfl, List.forall_mem_cons.mpr ⟨List.mem_of_getElem? (i := 1373) rfl, List.forall_mem_cons.mpr ⟨List.mem_of_getElem? (i := 1377) rfl, List.forall_mem_cons.mpr ⟨List.mem_of_getElem? (i := 1381) rfl, List.forall_mem_cons.mpr ⟨List.mem_of_getElem? (i := 1385) rfl, List.forall_mem_cons.mpr ⟨List.mem_of_getElem? (i := 1391) rfl, List.forall_mem_cons.mpr ⟨List.mem_of_getElem? (i := 1395) rfl, List.forall_mem_cons.mpr ⟨List.mem_of_getElem? (i := 1399) rfl, List.forall_mem_cons.mpr ⟨List.mem_of_getElem? (i := 1403) rfl, List.forall_mem_cons.mpr ⟨List.mem_of_getElem? (i := 1408) rfl, List.forall_mem_cons.mpr ⟨List.mem_of_getElem? (i := 1412) rfl, List.forall_mem_cons.mpr ⟨List.mem_of_getElem? (i := 1416) rfl, List.forall_mem_cons.mpr ⟨List.mem_of_getElem? (i := 1420) rfl, List.forall_mem_cons.mpr ⟨List.mem_of_getElem? (i := 1424) rfl, fun _ h => absurd h List.not_mem_nil⟩⟩⟩⟩⟩⟩⟩⟩⟩⟩⟩⟩⟩⟩⟩⟩⟩⟩⟩⟩
theorem cd_9 : ∀ m ∈ (pM.drop 180).take 20, Cond.code m.1 m.2.1 m.2.2.1 m.2.2.2.1 ∈ lw_tbl := by
  show ∀ m ∈ [m_Stock_become, m_Book_become, m_Texts_become, m_A_look, m_World_struckOnes, m_R_init, m_R_undo, m_R_state, m_R_person, m_R_isIn, m_R_alias, m_R_isPerson, m_R_isStreet, m_R_set, m_R_canSet, m_R_isAlias, m_R_feed, m_R_types, m_R_end, m_R_text], _
  exact List.forall_mem_cons.mpr ⟨List.mem_of_getElem? (i := 1428) rfl, List.forall_mem_cons.mpr ⟨List.mem_of_getElem? (i := 1433) rfl, List.forall_mem_cons.mpr ⟨List.mem_of_getElem? (i := 1438) rfl, List.forall_mem_cons.mpr ⟨List.mem_of_getElem? (i := 1444) rfl, List.forall_mem_cons.mpr ⟨List.mem_of_getElem? (i := 1448) rfl, List.forall_mem_cons.mpr ⟨List.mem_of_getElem? (i := 1453) rfl, List.forall_mem_cons.mpr ⟨List.mem_of_getElem? (i := 1693) rfl, List.forall_mem_cons.mpr ⟨List.mem_of_getElem? (i := 1697) rfl, List.forall_mem_cons.mpr ⟨List.mem_of_getElem? (i := 1701) rfl, List.forall_mem_cons.mpr ⟨List.mem_of_getElem? (i := 1705) rfl, List.forall_mem_cons.mpr ⟨List.mem_of_getElem? (i := 1709) rfl, List.forall_mem_cons.mpr ⟨List.mem_of_getElem? (i := 1713) rfl, List.forall_mem_cons.mpr ⟨List.mem_of_getElem? (i := 1717) rfl, List.forall_mem_cons.mpr ⟨List.mem_of_getElem? (i := 1721) rfl, List.forall_mem_cons.mpr ⟨List.mem_of_getElem? (i := 1725) rfl, List.forall_mem_cons.mpr ⟨List.mem_of_getElem? (i := 1729) rfl, List.forall_mem_cons.mpr ⟨List.mem_of_getElem? (i := 1733) rfl, List.forall_mem_cons.mpr ⟨List.mem_of_getElem? (i := 1737) rfl, List.forall_mem_cons.mpr ⟨List.mem_of_getElem? (i := 1741) rfl, List.forall_mem_cons.mpr ⟨List.mem_of_getElem? (i := 1745) rfl, fun _ h => absurd h List.not_mem_nil⟩⟩⟩⟩⟩⟩⟩⟩⟩⟩⟩⟩⟩⟩⟩⟩⟩⟩⟩⟩
theorem cd_10 : ∀ m ∈ (pM.drop 200).take 20, Cond.code m.1 m.2.1 m.2.2.1 m.2.2.2.1 ∈ lw_tbl := by
  show ∀ m ∈ [m_R_readsText, m_R_reads, m_R_raw, m_R_isLetter, m_R_wordAt, m_R_isDigit, m_R_isMarkSign, m_R_readShares, m_R_isWord, m_R_errs, m_R_readShare, m_R_readTold, m_R_readNumber, m_R_readMark, m_R_isSign, m_R_readDiary, m_R_readDeed, m_R_kindOfDeed, m_R_mostWho, m_R_readDeedMore], _
  exact List.forall_mem_cons.mpr ⟨List.mem_of_getElem? (i := 1749) rfl, List.forall_mem_cons.mpr ⟨List.mem_of_getElem? (i := 1753) rfl, List.forall_mem_cons.mpr ⟨List.mem_of_getElem? (i := 1757) rfl, List.forall_mem_cons.mpr ⟨List.mem_of_getElem? (i := 1761) rfl, List.forall_mem_cons.mpr ⟨List.mem_of_getElem? (i := 1765) rfl, List.forall_mem_cons.mpr ⟨List.mem_of_getElem? (i := 1769) rfl, List.forall_mem_cons.mpr ⟨List.mem_of_getElem? (i := 1773) rfl, List.forall_mem_cons.mpr ⟨List.mem_of_getElem? (i := 1777) rfl, List.forall_mem_cons.mpr ⟨List.mem_of_getElem? (i := 1781) rfl, List.forall_mem_cons.mpr ⟨List.mem_of_getElem? (i := 1785) rfl, List.forall_mem_cons.mpr ⟨List.mem_of_getElem? (i := 1789) rfl, List.forall_mem_cons.mpr ⟨List.mem_of_getElem? (i := 1793) rfl, List.forall_mem_cons.mpr ⟨List.mem_of_getElem? (i := 1797) rfl, List.forall_mem_cons.mpr ⟨List.mem_of_getElem? (i := 1801) rfl, List.forall_mem_cons.mpr ⟨List.mem_of_getElem? (i := 1805) rfl, List.forall_mem_cons.mpr ⟨List.mem_of_getElem? (i := 1809) rfl, List.forall_mem_cons.mpr ⟨List.mem_of_getElem? (i := 1813) rfl, List.forall_mem_cons.mpr ⟨List.mem_of_getElem? (i := 1817) rfl, List.forall_mem_cons.mpr ⟨List.mem_of_getElem? (i := 1821) rfl, List.forall_mem_cons.mpr ⟨List.mem_of_getElem? (i := 1825) rfl, fun _ h => absurd h List.not_mem_nil⟩⟩⟩⟩⟩⟩⟩⟩⟩⟩⟩⟩⟩⟩⟩⟩⟩⟩⟩⟩
theorem cd_11 : ∀ m ∈ (pM.drop 220).take 20, Cond.code m.1 m.2.1 m.2.2.1 m.2.2.2.1 ∈ lw_tbl := by
  show ∀ m ∈ [m_R_readStreets, m_R_readStreet, m_R_readLaw, m_R_isLineWord, m_R_readSum, m_R_readProduct, m_R_readUnit, m_R_canAsk, m_R_emits, m_R_readAny, m_R_waits, m_R_readCompared, m_R_settles, m_R_takesLaw, m_R_takesOther, m_R_fault, m_R_hours, m_R_keepsAhead, m_R_goesBy, m_R_does], _
  exact List.forall_mem_cons.mpr ⟨List.mem_of_getElem? (i := 1829) rfl, List.forall_mem_cons.mpr ⟨List.mem_of_getElem? (i := 1833) rfl, List.forall_mem_cons.mpr ⟨List.mem_of_getElem? (i := 1837) rfl, List.forall_mem_cons.mpr ⟨List.mem_of_getElem? (i := 1841) rfl, List.forall_mem_cons.mpr ⟨List.mem_of_getElem? (i := 1845) rfl, List.forall_mem_cons.mpr ⟨List.mem_of_getElem? (i := 1849) rfl, List.forall_mem_cons.mpr ⟨List.mem_of_getElem? (i := 1853) rfl, List.forall_mem_cons.mpr ⟨List.mem_of_getElem? (i := 1857) rfl, List.forall_mem_cons.mpr ⟨List.mem_of_getElem? (i := 1861) rfl, List.forall_mem_cons.mpr ⟨List.mem_of_getElem? (i := 1865) rfl, List.forall_mem_cons.mpr ⟨List.mem_of_getElem? (i := 1869) rfl, List.forall_mem_cons.mpr ⟨List.mem_of_getElem? (i := 1873) rfl, List.forall_mem_cons.mpr ⟨List.mem_of_getElem? (i := 1877) rfl, List.forall_mem_cons.mpr ⟨List.mem_of_getElem? (i := 1881) rfl, List.forall_mem_cons.mpr ⟨List.mem_of_getElem? (i := 1885) rfl, List.forall_mem_cons.mpr ⟨List.mem_of_getElem? (i := 1889) rfl, List.forall_mem_cons.mpr ⟨List.mem_of_getElem? (i := 1893) rfl, List.forall_mem_cons.mpr ⟨List.mem_of_getElem? (i := 1897) rfl, List.forall_mem_cons.mpr ⟨List.mem_of_getElem? (i := 1901) rfl, List.forall_mem_cons.mpr ⟨List.mem_of_getElem? (i := 1905) rfl, fun _ h => absurd h List.not_mem_nil⟩⟩⟩⟩⟩⟩⟩⟩⟩⟩⟩⟩⟩⟩⟩⟩⟩⟩⟩⟩
theorem cd_12 : ∀ m ∈ (pM.drop 240).take 20, Cond.code m.1 m.2.1 m.2.2.1 m.2.2.2.1 ∈ lw_tbl := by
  show ∀ m ∈ [m_R_isStruck, m_R_goesOut, m_R_lesser, m_R_goesHome, m_R_bySharesOf, m_R_cousinsOf, m_R_isOut, m_R_writes, m_R_mightBeSeen, m_R_seenOf, m_R_asks, m_R_othersBy, m_R_lawTells, m_R_lineOf, m_R_runs, m_R_twoOf, m_R_held, m_R_draw, m_R_isWithAnother, m_R_livesOn], _
  exact List.forall_mem_cons.mpr ⟨List.mem_of_getElem? (i := 1909) rfl, List.forall_mem_cons.mpr ⟨List.mem_of_getElem? (i := 1913) rfl, List.forall_mem_cons.mpr ⟨List.mem_of_getElem? (i := 1917) rfl, List.forall_mem_cons.mpr ⟨List.mem_of_getElem? (i := 1921) rfl, List.forall_mem_cons.mpr ⟨List.mem_of_getElem? (i := 1925) rfl, List.forall_mem_cons.mpr ⟨List.mem_of_getElem? (i := 1929) rfl, List.forall_mem_cons.mpr ⟨List.mem_of_getElem? (i := 1933) rfl, List.forall_mem_cons.mpr ⟨List.mem_of_getElem? (i := 1937) rfl, List.forall_mem_cons.mpr ⟨List.mem_of_getElem? (i := 1941) rfl, List.forall_mem_cons.mpr ⟨List.mem_of_getElem? (i := 1945) rfl, List.forall_mem_cons.mpr ⟨List.mem_of_getElem? (i := 1949) rfl, List.forall_mem_cons.mpr ⟨List.mem_of_getElem? (i := 1953) rfl, List.forall_mem_cons.mpr ⟨List.mem_of_getElem? (i := 1957) rfl, List.forall_mem_cons.mpr ⟨List.mem_of_getElem? (i := 1961) rfl, List.forall_mem_cons.mpr ⟨List.mem_of_getElem? (i := 1965) rfl, List.forall_mem_cons.mpr ⟨List.mem_of_getElem? (i := 1969) rfl, List.forall_mem_cons.mpr ⟨List.mem_of_getElem? (i := 1973) rfl, List.forall_mem_cons.mpr ⟨List.mem_of_getElem? (i := 1977) rfl, List.forall_mem_cons.mpr ⟨List.mem_of_getElem? (i := 1983) rfl, List.forall_mem_cons.mpr ⟨List.mem_of_getElem? (i := 1987) rfl, fun _ h => absurd h List.not_mem_nil⟩⟩⟩⟩⟩⟩⟩⟩⟩⟩⟩⟩⟩⟩⟩⟩⟩⟩⟩⟩
theorem cd_13 : ∀ m ∈ (pM.drop 260).take 20, Cond.code m.1 m.2.1 m.2.2.1 m.2.2.2.1 ∈ lw_tbl := by
  show ∀ m ∈ [m_R_gainsOf, m_R_costsOf, m_R_strikesOff, m_R_greater, m_R_act, m_R_canAct, m_R_of, m_R_who, m_R_aliasesOf, m_R_street, m_R_book, m_R_goes, m_R_thinks, m_R_endsThought, m_R_keeps, m_R_sighted, m_R_persons, m_R_fewestPersons, m_R_canCome, m_R_wayOf], _
  exact List.forall_mem_cons.mpr ⟨List.mem_of_getElem? (i := 1991) rfl, List.forall_mem_cons.mpr ⟨List.mem_of_getElem? (i := 1995) rfl, List.forall_mem_cons.mpr ⟨List.mem_of_getElem? (i := 1999) rfl, List.forall_mem_cons.mpr ⟨List.mem_of_getElem? (i := 2003) rfl, List.forall_mem_cons.mpr ⟨List.mem_of_getElem? (i := 2007) rfl, List.forall_mem_cons.mpr ⟨List.mem_of_getElem? (i := 2011) rfl, List.forall_mem_cons.mpr ⟨List.mem_of_getElem? (i := 2015) rfl, List.forall_mem_cons.mpr ⟨List.mem_of_getElem? (i := 2019) rfl, List.forall_mem_cons.mpr ⟨List.mem_of_getElem? (i := 2023) rfl, List.forall_mem_cons.mpr ⟨List.mem_of_getElem? (i := 2027) rfl, List.forall_mem_cons.mpr ⟨List.mem_of_getElem? (i := 2031) rfl, List.forall_mem_cons.mpr ⟨List.mem_of_getElem? (i := 2035) rfl, List.forall_mem_cons.mpr ⟨List.mem_of_getElem? (i := 2039) rfl, List.forall_mem_cons.mpr ⟨List.mem_of_getElem? (i := 2043) rfl, List.forall_mem_cons.mpr ⟨List.mem_of_getElem? (i := 2047) rfl, List.forall_mem_cons.mpr ⟨List.mem_of_getElem? (i := 2051) rfl, List.forall_mem_cons.mpr ⟨List.mem_of_getElem? (i := 2055) rfl, List.forall_mem_cons.mpr ⟨List.mem_of_getElem? (i := 2059) rfl, List.forall_mem_cons.mpr ⟨List.mem_of_getElem? (i := 2064) rfl, List.forall_mem_cons.mpr ⟨List.mem_of_getElem? (i := 2068) rfl, fun _ h => absurd h List.not_mem_nil⟩⟩⟩⟩⟩⟩⟩⟩⟩⟩⟩⟩⟩⟩⟩⟩⟩⟩⟩⟩
theorem cd_14 : ∀ m ∈ (pM.drop 280).take 20, Cond.code m.1 m.2.1 m.2.2.1 m.2.2.2.1 ∈ lw_tbl := by
  show ∀ m ∈ [m_R_has, m_R_pair, m_R_names, m_R_groups, m_R_groupOf, m_R_fewestNamed, m_R_canBeOne, m_R_says, m_R_speakers, m_R_canSpeak, m_R_onesOf, m_R_vote, m_R_swings, m_R_swingsOf, m_R_least, m_R_watchSet, m_R_coatsAt, m_R_birthdays, m_R_common, m_R_letter], _
  exact List.forall_mem_cons.mpr ⟨List.mem_of_getElem? (i := 2072) rfl, List.forall_mem_cons.mpr ⟨List.mem_of_getElem? (i := 2077) rfl, List.forall_mem_cons.mpr ⟨List.mem_of_getElem? (i := 2081) rfl, List.forall_mem_cons.mpr ⟨List.mem_of_getElem? (i := 2085) rfl, List.forall_mem_cons.mpr ⟨List.mem_of_getElem? (i := 2089) rfl, List.forall_mem_cons.mpr ⟨List.mem_of_getElem? (i := 2093) rfl, List.forall_mem_cons.mpr ⟨List.mem_of_getElem? (i := 2097) rfl, List.forall_mem_cons.mpr ⟨List.mem_of_getElem? (i := 2101) rfl, List.forall_mem_cons.mpr ⟨List.mem_of_getElem? (i := 2105) rfl, List.forall_mem_cons.mpr ⟨List.mem_of_getElem? (i := 2109) rfl, List.forall_mem_cons.mpr ⟨List.mem_of_getElem? (i := 2113) rfl, List.forall_mem_cons.mpr ⟨List.mem_of_getElem? (i := 2117) rfl, List.forall_mem_cons.mpr ⟨List.mem_of_getElem? (i := 2121) rfl, List.forall_mem_cons.mpr ⟨List.mem_of_getElem? (i := 2125) rfl, List.forall_mem_cons.mpr ⟨List.mem_of_getElem? (i := 2129) rfl, List.forall_mem_cons.mpr ⟨List.mem_of_getElem? (i := 2133) rfl, List.forall_mem_cons.mpr ⟨List.mem_of_getElem? (i := 2137) rfl, List.forall_mem_cons.mpr ⟨List.mem_of_getElem? (i := 2141) rfl, List.forall_mem_cons.mpr ⟨List.mem_of_getElem? (i := 2145) rfl, List.forall_mem_cons.mpr ⟨List.mem_of_getElem? (i := 2149) rfl, fun _ h => absurd h List.not_mem_nil⟩⟩⟩⟩⟩⟩⟩⟩⟩⟩⟩⟩⟩⟩⟩⟩⟩⟩⟩⟩
theorem cd_15 : ∀ m ∈ (pM.drop 300).take 20, Cond.code m.1 m.2.1 m.2.2.1 m.2.2.2.1 ∈ lw_tbl := by
  show ∀ m ∈ [m_R_notes, m_R_boot, m_R_bed, m_R_beds, m_R_findsBedded, m_R_doesLie, m_R_bedOf, m_R_box, m_R_named, m_R_choose, m_R_net, m_R_netAt, m_R_hoop, m_R_loan, m_R_settled, m_R_fewestGifts, m_R_game, m_R_goodTaking, m_R_leaves, m_R_image], _
  exact List.forall_mem_cons.mpr ⟨List.mem_of_getElem? (i := 2153) rfl, List.forall_mem_cons.mpr ⟨List.mem_of_getElem? (i := 2157) rfl, List.forall_mem_cons.mpr ⟨List.mem_of_getElem? (i := 2161) rfl, List.forall_mem_cons.mpr ⟨List.mem_of_getElem? (i := 2165) rfl, List.forall_mem_cons.mpr ⟨List.mem_of_getElem? (i := 2169) rfl, List.forall_mem_cons.mpr ⟨List.mem_of_getElem? (i := 2173) rfl, List.forall_mem_cons.mpr ⟨List.mem_of_getElem? (i := 2177) rfl, List.forall_mem_cons.mpr ⟨List.mem_of_getElem? (i := 2181) rfl, List.forall_mem_cons.mpr ⟨List.mem_of_getElem? (i := 2185) rfl, List.forall_mem_cons.mpr ⟨List.mem_of_getElem? (i := 2189) rfl, List.forall_mem_cons.mpr ⟨List.mem_of_getElem? (i := 2193) rfl, List.forall_mem_cons.mpr ⟨List.mem_of_getElem? (i := 2197) rfl, List.forall_mem_cons.mpr ⟨List.mem_of_getElem? (i := 2201) rfl, List.forall_mem_cons.mpr ⟨List.mem_of_getElem? (i := 2205) rfl, List.forall_mem_cons.mpr ⟨List.mem_of_getElem? (i := 2209) rfl, List.forall_mem_cons.mpr ⟨List.mem_of_getElem? (i := 2213) rfl, List.forall_mem_cons.mpr ⟨List.mem_of_getElem? (i := 2217) rfl, List.forall_mem_cons.mpr ⟨List.mem_of_getElem? (i := 2221) rfl, List.forall_mem_cons.mpr ⟨List.mem_of_getElem? (i := 2225) rfl, List.forall_mem_cons.mpr ⟨List.mem_of_getElem? (i := 2229) rfl, fun _ h => absurd h List.not_mem_nil⟩⟩⟩⟩⟩⟩⟩⟩⟩⟩⟩⟩⟩⟩⟩⟩⟩⟩⟩⟩
theorem cd_16 : ∀ m ∈ (pM.drop 320).take 5, Cond.code m.1 m.2.1 m.2.2.1 m.2.2.2.1 ∈ lw_tbl := by
  show ∀ m ∈ [m_R_kept, m_R_keepsMany, m_R_keepsTold, m_R_keepsLaw, m_R_look], _
  exact List.forall_mem_cons.mpr ⟨List.mem_of_getElem? (i := 2233) rfl, List.forall_mem_cons.mpr ⟨List.mem_of_getElem? (i := 2237) rfl, List.forall_mem_cons.mpr ⟨List.mem_of_getElem? (i := 2241) rfl, List.forall_mem_cons.mpr ⟨List.mem_of_getElem? (i := 2245) rfl, List.forall_mem_cons.mpr ⟨List.mem_of_getElem? (i := 2249) rfl, fun _ h => absurd h List.not_mem_nil⟩⟩⟩⟩⟩
theorem code_at {z : Nat} {m : PInf} (hz : z < 325) (hm : pM[z]? = some m) : Cond.code m.1 m.2.1 m.2.2.1 m.2.2.2.1 ∈ GW := by
  rcases Nat.lt_or_ge z 20 with q | q
  · exact List.mem_filter.mpr ⟨cd_0 m (List.mem_of_getElem? (i := z - 0) (by rw [List.getElem?_take_of_lt (by omega), List.getElem?_drop, Nat.add_sub_cancel' (by omega)]; exact hm)), rfl⟩
  rcases Nat.lt_or_ge z 40 with q | q
  · exact List.mem_filter.mpr ⟨cd_1 m (List.mem_of_getElem? (i := z - 20) (by rw [List.getElem?_take_of_lt (by omega), List.getElem?_drop, Nat.add_sub_cancel' (by omega)]; exact hm)), rfl⟩
  rcases Nat.lt_or_ge z 60 with q | q
  · exact List.mem_filter.mpr ⟨cd_2 m (List.mem_of_getElem? (i := z - 40) (by rw [List.getElem?_take_of_lt (by omega), List.getElem?_drop, Nat.add_sub_cancel' (by omega)]; exact hm)), rfl⟩
  rcases Nat.lt_or_ge z 80 with q | q
  · exact List.mem_filter.mpr ⟨cd_3 m (List.mem_of_getElem? (i := z - 60) (by rw [List.getElem?_take_of_lt (by omega), List.getElem?_drop, Nat.add_sub_cancel' (by omega)]; exact hm)), rfl⟩
  rcases Nat.lt_or_ge z 100 with q | q
  · exact List.mem_filter.mpr ⟨cd_4 m (List.mem_of_getElem? (i := z - 80) (by rw [List.getElem?_take_of_lt (by omega), List.getElem?_drop, Nat.add_sub_cancel' (by omega)]; exact hm)), rfl⟩
  rcases Nat.lt_or_ge z 120 with q | q
  · exact List.mem_filter.mpr ⟨cd_5 m (List.mem_of_getElem? (i := z - 100) (by rw [List.getElem?_take_of_lt (by omega), List.getElem?_drop, Nat.add_sub_cancel' (by omega)]; exact hm)), rfl⟩
  rcases Nat.lt_or_ge z 140 with q | q
  · exact List.mem_filter.mpr ⟨cd_6 m (List.mem_of_getElem? (i := z - 120) (by rw [List.getElem?_take_of_lt (by omega), List.getElem?_drop, Nat.add_sub_cancel' (by omega)]; exact hm)), rfl⟩
  rcases Nat.lt_or_ge z 160 with q | q
  · exact List.mem_filter.mpr ⟨cd_7 m (List.mem_of_getElem? (i := z - 140) (by rw [List.getElem?_take_of_lt (by omega), List.getElem?_drop, Nat.add_sub_cancel' (by omega)]; exact hm)), rfl⟩
  rcases Nat.lt_or_ge z 180 with q | q
  · exact List.mem_filter.mpr ⟨cd_8 m (List.mem_of_getElem? (i := z - 160) (by rw [List.getElem?_take_of_lt (by omega), List.getElem?_drop, Nat.add_sub_cancel' (by omega)]; exact hm)), rfl⟩
  rcases Nat.lt_or_ge z 200 with q | q
  · exact List.mem_filter.mpr ⟨cd_9 m (List.mem_of_getElem? (i := z - 180) (by rw [List.getElem?_take_of_lt (by omega), List.getElem?_drop, Nat.add_sub_cancel' (by omega)]; exact hm)), rfl⟩
  rcases Nat.lt_or_ge z 220 with q | q
  · exact List.mem_filter.mpr ⟨cd_10 m (List.mem_of_getElem? (i := z - 200) (by rw [List.getElem?_take_of_lt (by omega), List.getElem?_drop, Nat.add_sub_cancel' (by omega)]; exact hm)), rfl⟩
  rcases Nat.lt_or_ge z 240 with q | q
  · exact List.mem_filter.mpr ⟨cd_11 m (List.mem_of_getElem? (i := z - 220) (by rw [List.getElem?_take_of_lt (by omega), List.getElem?_drop, Nat.add_sub_cancel' (by omega)]; exact hm)), rfl⟩
  rcases Nat.lt_or_ge z 260 with q | q
  · exact List.mem_filter.mpr ⟨cd_12 m (List.mem_of_getElem? (i := z - 240) (by rw [List.getElem?_take_of_lt (by omega), List.getElem?_drop, Nat.add_sub_cancel' (by omega)]; exact hm)), rfl⟩
  rcases Nat.lt_or_ge z 280 with q | q
  · exact List.mem_filter.mpr ⟨cd_13 m (List.mem_of_getElem? (i := z - 260) (by rw [List.getElem?_take_of_lt (by omega), List.getElem?_drop, Nat.add_sub_cancel' (by omega)]; exact hm)), rfl⟩
  rcases Nat.lt_or_ge z 300 with q | q
  · exact List.mem_filter.mpr ⟨cd_14 m (List.mem_of_getElem? (i := z - 280) (by rw [List.getElem?_take_of_lt (by omega), List.getElem?_drop, Nat.add_sub_cancel' (by omega)]; exact hm)), rfl⟩
  rcases Nat.lt_or_ge z 320 with q | q
  · exact List.mem_filter.mpr ⟨cd_15 m (List.mem_of_getElem? (i := z - 300) (by rw [List.getElem?_take_of_lt (by omega), List.getElem?_drop, Nat.add_sub_cancel' (by omega)]; exact hm)), rfl⟩
  rcases Nat.lt_or_ge z 325 with q | q
  · exact List.mem_filter.mpr ⟨cd_16 m (List.mem_of_getElem? (i := z - 320) (by rw [List.getElem?_take_of_lt (by omega), List.getElem?_drop, Nat.add_sub_cancel' (by omega)]; exact hm)), rfl⟩
  exact absurd hz (by omega)
