/-! the code of R_init, by computing -/
theorem eChk_R_init_0 : ((q_R_init.drop (40 * 0)).take 40).all (eChk 12 true prog_14_method_1_code) = true := by decide +kernel
theorem eChk_R_init_1 : ((q_R_init.drop (40 * 1)).take 40).all (eChk 12 true prog_14_method_1_code) = true := by decide +kernel
theorem eChk_R_init_2 : ((q_R_init.drop (40 * 2)).take 40).all (eChk 12 true prog_14_method_1_code) = true := by decide +kernel
theorem eChk_R_init_3 : ((q_R_init.drop (40 * 3)).take 40).all (eChk 12 true prog_14_method_1_code) = true := by decide +kernel
theorem eChk_R_init_4 : ((q_R_init.drop (40 * 4)).take 40).all (eChk 12 true prog_14_method_1_code) = true := by decide +kernel
theorem eChk_R_init_5 : ((q_R_init.drop (40 * 5)).take 40).all (eChk 12 true prog_14_method_1_code) = true := by decide +kernel
theorem eChk_R_init_6 : ((q_R_init.drop (40 * 6)).take 40).all (eChk 12 true prog_14_method_1_code) = true := by decide +kernel
theorem eChk_R_init_7 : ((q_R_init.drop (40 * 7)).take 40).all (eChk 12 true prog_14_method_1_code) = true := by decide +kernel
theorem eChk_R_init_8 : ((q_R_init.drop (40 * 8)).take 40).all (eChk 12 true prog_14_method_1_code) = true := by decide +kernel
theorem eChk_R_init_9 : ((q_R_init.drop (40 * 9)).take 40).all (eChk 12 true prog_14_method_1_code) = true := by decide +kernel
theorem eChk_R_init_10 : ((q_R_init.drop (40 * 10)).take 40).all (eChk 12 true prog_14_method_1_code) = true := by decide +kernel
theorem eChk_R_init_11 : ((q_R_init.drop (40 * 11)).take 40).all (eChk 12 true prog_14_method_1_code) = true := by decide +kernel
theorem eChk_R_init_12 : ((q_R_init.drop (40 * 12)).take 40).all (eChk 12 true prog_14_method_1_code) = true := by decide +kernel
theorem eChk_R_init_13 : ((q_R_init.drop (40 * 13)).take 40).all (eChk 12 true prog_14_method_1_code) = true := by decide +kernel
theorem eChk_R_init_14 : ((q_R_init.drop (40 * 14)).take 40).all (eChk 12 true prog_14_method_1_code) = true := by decide +kernel
theorem eChk_R_init_15 : ((q_R_init.drop (40 * 15)).take 40).all (eChk 12 true prog_14_method_1_code) = true := by decide +kernel
theorem eChk_R_init_16 : ((q_R_init.drop (40 * 16)).take 40).all (eChk 12 true prog_14_method_1_code) = true := by decide +kernel
theorem eChk_R_init_17 : ((q_R_init.drop (40 * 17)).take 40).all (eChk 12 true prog_14_method_1_code) = true := by decide +kernel
theorem eChk_R_init : mChk m_R_init (q_R_init, 1, 1, 0, 98) = true := by
  refine allChunks _ 40 (by decide) 18 _ (by decide +kernel) (fun k hk => ?_)
  match k, hk with
  | 0, _ => exact eChk_R_init_0
  | 1, _ => exact eChk_R_init_1
  | 2, _ => exact eChk_R_init_2
  | 3, _ => exact eChk_R_init_3
  | 4, _ => exact eChk_R_init_4
  | 5, _ => exact eChk_R_init_5
  | 6, _ => exact eChk_R_init_6
  | 7, _ => exact eChk_R_init_7
  | 8, _ => exact eChk_R_init_8
  | 9, _ => exact eChk_R_init_9
  | 10, _ => exact eChk_R_init_10
  | 11, _ => exact eChk_R_init_11
  | 12, _ => exact eChk_R_init_12
  | 13, _ => exact eChk_R_init_13
  | 14, _ => exact eChk_R_init_14
  | 15, _ => exact eChk_R_init_15
  | 16, _ => exact eChk_R_init_16
  | 17, _ => exact eChk_R_init_17
  | k + 18, h => exact absurd h (by omega)
theorem mChkS_191 : ((pQ.drop 191).take 1).all (fun q => mChk q.1 q.2) = true := by
  show ([(m_R_init, (q_R_init, 1, 1, 0, 98))] : List (PInf × MR)).all (fun q => mChk q.1 q.2) = true
  simp only [List.all_cons, List.all_nil, Bool.and_true]
  exact eChk_R_init
