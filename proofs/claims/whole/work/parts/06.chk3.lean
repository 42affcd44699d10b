/-! the code of R_keepsTold, by computing -/
theorem eChk_R_keepsTold_0 : ((q_R_keepsTold.drop (40 * 0)).take 40).all (eChk 12 false prog_14_method_139_code) = true := by decide +kernel
theorem eChk_R_keepsTold_1 : ((q_R_keepsTold.drop (40 * 1)).take 40).all (eChk 12 false prog_14_method_139_code) = true := by decide +kernel
theorem eChk_R_keepsTold_2 : ((q_R_keepsTold.drop (40 * 2)).take 40).all (eChk 12 false prog_14_method_139_code) = true := by decide +kernel
theorem eChk_R_keepsTold_3 : ((q_R_keepsTold.drop (40 * 3)).take 40).all (eChk 12 false prog_14_method_139_code) = true := by decide +kernel
theorem eChk_R_keepsTold_4 : ((q_R_keepsTold.drop (40 * 4)).take 40).all (eChk 12 false prog_14_method_139_code) = true := by decide +kernel
theorem eChk_R_keepsTold_5 : ((q_R_keepsTold.drop (40 * 5)).take 40).all (eChk 12 false prog_14_method_139_code) = true := by decide +kernel
theorem eChk_R_keepsTold_6 : ((q_R_keepsTold.drop (40 * 6)).take 40).all (eChk 12 false prog_14_method_139_code) = true := by decide +kernel
theorem eChk_R_keepsTold : mChk m_R_keepsTold (q_R_keepsTold, 1, 2, 0, 12) = true := by
  refine allChunks _ 40 (by decide) 7 _ (by decide +kernel) (fun k hk => ?_)
  match k, hk with
  | 0, _ => exact eChk_R_keepsTold_0
  | 1, _ => exact eChk_R_keepsTold_1
  | 2, _ => exact eChk_R_keepsTold_2
  | 3, _ => exact eChk_R_keepsTold_3
  | 4, _ => exact eChk_R_keepsTold_4
  | 5, _ => exact eChk_R_keepsTold_5
  | 6, _ => exact eChk_R_keepsTold_6
  | k + 7, h => exact absurd h (by omega)
theorem mChkS_328 : ((pQ.drop 328).take 1).all (fun q => mChk q.1 q.2) = true := by
  show ([(m_R_keepsTold, (q_R_keepsTold, 1, 2, 0, 12))] : List (PInf × MR)).all (fun q => mChk q.1 q.2) = true
  simp only [List.all_cons, List.all_nil, Bool.and_true]
  exact eChk_R_keepsTold
