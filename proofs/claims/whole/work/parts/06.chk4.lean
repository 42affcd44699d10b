/-! the code of L_law, by computing -/
theorem eChk_L_law_0 : ((q_L_law.drop (40 * 0)).take 40).all (eChk 13 false code) = true := by decide +kernel
theorem eChk_L_law_1 : ((q_L_law.drop (40 * 1)).take 40).all (eChk 13 false code) = true := by decide +kernel
theorem eChk_L_law_2 : ((q_L_law.drop (40 * 2)).take 40).all (eChk 13 false code) = true := by decide +kernel
theorem eChk_L_law_3 : ((q_L_law.drop (40 * 3)).take 40).all (eChk 13 false code) = true := by decide +kernel
theorem eChk_L_law_4 : ((q_L_law.drop (40 * 4)).take 40).all (eChk 13 false code) = true := by decide +kernel
theorem eChk_L_law_5 : ((q_L_law.drop (40 * 5)).take 40).all (eChk 13 false code) = true := by decide +kernel
theorem eChk_L_law_6 : ((q_L_law.drop (40 * 6)).take 40).all (eChk 13 false code) = true := by decide +kernel
theorem eChk_L_law_7 : ((q_L_law.drop (40 * 7)).take 40).all (eChk 13 false code) = true := by decide +kernel
theorem eChk_L_law_8 : ((q_L_law.drop (40 * 8)).take 40).all (eChk 13 false code) = true := by decide +kernel
theorem eChk_L_law_9 : ((q_L_law.drop (40 * 9)).take 40).all (eChk 13 false code) = true := by decide +kernel
theorem eChk_L_law_10 : ((q_L_law.drop (40 * 10)).take 40).all (eChk 13 false code) = true := by decide +kernel
theorem eChk_L_law_11 : ((q_L_law.drop (40 * 11)).take 40).all (eChk 13 false code) = true := by decide +kernel
theorem eChk_L_law_12 : ((q_L_law.drop (40 * 12)).take 40).all (eChk 13 false code) = true := by decide +kernel
theorem eChk_L_law_13 : ((q_L_law.drop (40 * 13)).take 40).all (eChk 13 false code) = true := by decide +kernel
theorem eChk_L_law_14 : ((q_L_law.drop (40 * 14)).take 40).all (eChk 13 false code) = true := by decide +kernel
theorem eChk_L_law_15 : ((q_L_law.drop (40 * 15)).take 40).all (eChk 13 false code) = true := by decide +kernel
theorem eChk_L_law_16 : ((q_L_law.drop (40 * 16)).take 40).all (eChk 13 false code) = true := by decide +kernel
theorem eChk_L_law_17 : ((q_L_law.drop (40 * 17)).take 40).all (eChk 13 false code) = true := by decide +kernel
theorem eChk_L_law_18 : ((q_L_law.drop (40 * 18)).take 40).all (eChk 13 false code) = true := by decide +kernel
theorem eChk_L_law_19 : ((q_L_law.drop (40 * 19)).take 40).all (eChk 13 false code) = true := by decide +kernel
theorem eChk_L_law_20 : ((q_L_law.drop (40 * 20)).take 40).all (eChk 13 false code) = true := by decide +kernel
theorem eChk_L_law_21 : ((q_L_law.drop (40 * 21)).take 40).all (eChk 13 false code) = true := by decide +kernel
theorem eChk_L_law_22 : ((q_L_law.drop (40 * 22)).take 40).all (eChk 13 false code) = true := by decide +kernel
theorem eChk_L_law_23 : ((q_L_law.drop (40 * 23)).take 40).all (eChk 13 false code) = true := by decide +kernel
theorem eChk_L_law_24 : ((q_L_law.drop (40 * 24)).take 40).all (eChk 13 false code) = true := by decide +kernel
theorem eChk_L_law_25 : ((q_L_law.drop (40 * 25)).take 40).all (eChk 13 false code) = true := by decide +kernel
theorem eChk_L_law_26 : ((q_L_law.drop (40 * 26)).take 40).all (eChk 13 false code) = true := by decide +kernel
theorem eChk_L_law : mChk m_L_law (q_L_law, 1, 4, 2, 99) = true := by
  refine allChunks _ 40 (by decide) 27 _ (by decide +kernel) (fun k hk => ?_)
  match k, hk with
  | 0, _ => exact eChk_L_law_0
  | 1, _ => exact eChk_L_law_1
  | 2, _ => exact eChk_L_law_2
  | 3, _ => exact eChk_L_law_3
  | 4, _ => exact eChk_L_law_4
  | 5, _ => exact eChk_L_law_5
  | 6, _ => exact eChk_L_law_6
  | 7, _ => exact eChk_L_law_7
  | 8, _ => exact eChk_L_law_8
  | 9, _ => exact eChk_L_law_9
  | 10, _ => exact eChk_L_law_10
  | 11, _ => exact eChk_L_law_11
  | 12, _ => exact eChk_L_law_12
  | 13, _ => exact eChk_L_law_13
  | 14, _ => exact eChk_L_law_14
  | 15, _ => exact eChk_L_law_15
  | 16, _ => exact eChk_L_law_16
  | 17, _ => exact eChk_L_law_17
  | 18, _ => exact eChk_L_law_18
  | 19, _ => exact eChk_L_law_19
  | 20, _ => exact eChk_L_law_20
  | 21, _ => exact eChk_L_law_21
  | 22, _ => exact eChk_L_law_22
  | 23, _ => exact eChk_L_law_23
  | 24, _ => exact eChk_L_law_24
  | 25, _ => exact eChk_L_law_25
  | 26, _ => exact eChk_L_law_26
  | k + 27, h => exact absurd h (by omega)
theorem mChkS_331 : ((pQ.drop 331).take 1).all (fun q => mChk q.1 q.2) = true := by
  show ([(m_L_law, (q_L_law, 1, 4, 2, 99))] : List (PInf × MR)).all (fun q => mChk q.1 q.2) = true
  simp only [List.all_cons, List.all_nil, Bool.and_true]
  exact eChk_L_law
