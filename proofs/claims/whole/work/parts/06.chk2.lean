/-! the code of R_goesBy, by computing -/
theorem eChk_R_goesBy_0 : ((q_R_goesBy.drop (40 * 0)).take 40).all (eChk 12 false prog_14_method_83_code) = true := by decide +kernel
theorem eChk_R_goesBy_1 : ((q_R_goesBy.drop (40 * 1)).take 40).all (eChk 12 false prog_14_method_83_code) = true := by decide +kernel
theorem eChk_R_goesBy_2 : ((q_R_goesBy.drop (40 * 2)).take 40).all (eChk 12 false prog_14_method_83_code) = true := by decide +kernel
theorem eChk_R_goesBy_3 : ((q_R_goesBy.drop (40 * 3)).take 40).all (eChk 12 false prog_14_method_83_code) = true := by decide +kernel
theorem eChk_R_goesBy : mChk m_R_goesBy (q_R_goesBy, 1, 3, 1, 12) = true := by
  refine allChunks _ 40 (by decide) 4 _ (by decide +kernel) (fun k hk => ?_)
  match k, hk with
  | 0, _ => exact eChk_R_goesBy_0
  | 1, _ => exact eChk_R_goesBy_1
  | 2, _ => exact eChk_R_goesBy_2
  | 3, _ => exact eChk_R_goesBy_3
  | k + 4, h => exact absurd h (by omega)
theorem mChkS_244 : ((pQ.drop 244).take 1).all (fun q => mChk q.1 q.2) = true := by
  show ([(m_R_goesBy, (q_R_goesBy, 1, 3, 1, 12))] : List (PInf × MR)).all (fun q => mChk q.1 q.2) = true
  simp only [List.all_cons, List.all_nil, Bool.and_true]
  exact eChk_R_goesBy
