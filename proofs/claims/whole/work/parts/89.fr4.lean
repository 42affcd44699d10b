/-! what is left alone (printed by wip/tools/gen_fr.py) -/
section FRM4
theorem fr_F_Riddles_neverSwing {x1 : Int32} : frA (F_Riddles_neverSwing x1) := by
  unfold F_Riddles_neverSwing
  repeat' first | with_reducible exact frA_rt | with_reducible exact frA_rd | with_reducible exact frA_ld | with_reducible refine frA_wr ?_ | with_reducible refine frA_sr ?_ | with_reducible exact frA_gd | with_reducible exact frA_gdZ | with_reducible exact fr_K_Riddles_neverSwing_4 | with_reducible refine frA_bn ?_ fun _ => ?_ | with_reducible refine frA_ite ?_ ?_ | omega
theorem fr_F_A_swings {x1 : Int32} {x2 : Int32} : frA (F_A_swings x1 x2) := by
  unfold F_A_swings
  repeat' first | with_reducible exact frA_rt | with_reducible exact frA_rd | with_reducible exact frA_ld | with_reducible refine frA_wr ?_ | with_reducible refine frA_sr ?_ | with_reducible exact frA_gd | with_reducible exact frA_gdZ | with_reducible exact fr_F_A_within | with_reducible exact fr_F_Riddles_neverSwing | with_reducible exact fr_F_Riddles_swingsOf | with_reducible refine frA_bn ?_ fun _ => ?_ | with_reducible refine frA_ite ?_ ?_ | omega
theorem fr_F_Reader_addToken {x1 : Int32} {x2 : Int32} {x3 : Int32} : frA (F_Reader_addToken x1 x2 x3) := by
  unfold F_Reader_addToken
  repeat' first | with_reducible exact frA_rt | with_reducible exact frA_rd | with_reducible exact frA_ld | with_reducible refine frA_wr ?_ | with_reducible refine frA_sr ?_ | with_reducible exact frA_gd | with_reducible exact frA_gdZ | with_reducible refine frA_bn ?_ fun _ => ?_ | with_reducible refine frA_ite ?_ ?_ | omega
theorem fr_F_Reader_isDigit {x0 : Int32} : frA (F_Reader_isDigit x0) := by
  unfold F_Reader_isDigit
  repeat' first | with_reducible exact frA_rt | with_reducible exact frA_rd | with_reducible exact frA_ld | with_reducible refine frA_wr ?_ | with_reducible refine frA_sr ?_ | with_reducible exact frA_gd | with_reducible exact frA_gdZ | with_reducible refine frA_bn ?_ fun _ => ?_ | with_reducible refine frA_ite ?_ ?_ | omega
theorem fr_F_Reader_isLetter {x0 : Int32} : frA (F_Reader_isLetter x0) := by
  unfold F_Reader_isLetter
  repeat' first | with_reducible exact frA_rt | with_reducible exact frA_rd | with_reducible exact frA_ld | with_reducible refine frA_wr ?_ | with_reducible refine frA_sr ?_ | with_reducible exact frA_gd | with_reducible exact frA_gdZ | with_reducible refine frA_bn ?_ fun _ => ?_ | with_reducible refine frA_ite ?_ ?_ | omega
theorem fr_B_Reader_matches_3 {x1 : Int32} {x2 : Int32} {x3 : Int32} {y : Int32} : frA (B_Reader_matches_3 x1 x2 x3 y) := by
  unfold B_Reader_matches_3
  repeat' first | with_reducible exact frA_rt | with_reducible exact frA_rd | with_reducible exact frA_ld | with_reducible refine frA_wr ?_ | with_reducible refine frA_sr ?_ | with_reducible exact frA_gd | with_reducible exact frA_gdZ | with_reducible refine frA_bn ?_ fun _ => ?_ | with_reducible refine frA_ite ?_ ?_ | split | omega
theorem fr_K_Reader_matches_3 {x1 : Int32} {x2 : Int32} {x3 : Int32} {x4 : Int32} : frA (K_Reader_matches_3 x1 x2 x3 x4) := by
  unfold K_Reader_matches_3
  repeat' first | with_reducible exact frA_rt | with_reducible exact frA_rd | with_reducible exact frA_ld | with_reducible refine frA_wr ?_ | with_reducible refine frA_sr ?_ | with_reducible exact frA_gd | with_reducible exact frA_gdZ | with_reducible exact fr_B_Reader_matches_3 | with_reducible refine frA_bn ?_ fun _ => ?_ | with_reducible refine frA_ite ?_ ?_ | with_reducible refine frA_lp fun _ => ?_ | split | omega
theorem fr_F_Reader_matches {x1 : Int32} {x2 : Int32} {x3 : Int32} : frA (F_Reader_matches x1 x2 x3) := by
  unfold F_Reader_matches
  repeat' first | with_reducible exact frA_rt | with_reducible exact frA_rd | with_reducible exact frA_ld | with_reducible refine frA_wr ?_ | with_reducible refine frA_sr ?_ | with_reducible exact frA_gd | with_reducible exact frA_gdZ | with_reducible exact fr_K_Reader_matches_3 | with_reducible refine frA_bn ?_ fun _ => ?_ | with_reducible refine frA_ite ?_ ?_ | split | omega
theorem fr_K_Reader_keyword_40 {x1 : Int32} {x2 : Int32} {x3 : Int32} {x4 : Int32} {x5 : Int32} : frA (K_Reader_keyword_40 x1 x2 x3 x4 x5) := by
  unfold K_Reader_keyword_40
  repeat' first | with_reducible exact frA_rt | with_reducible exact frA_rd | with_reducible exact frA_ld | with_reducible refine frA_wr ?_ | with_reducible refine frA_sr ?_ | with_reducible exact frA_gd | with_reducible exact frA_gdZ | with_reducible exact fr_F_Reader_matches | with_reducible refine frA_bn ?_ fun _ => ?_ | with_reducible refine frA_ite ?_ ?_ | split | omega
theorem fr_B_Reader_keyword_8 {x1 : Int32} {x2 : Int32} {y : Int32 × Int32 × Int32} : frA (B_Reader_keyword_8 x1 x2 y) := by
  unfold B_Reader_keyword_8
  repeat' first | with_reducible exact frA_rt | with_reducible exact frA_rd | with_reducible exact frA_ld | with_reducible refine frA_wr ?_ | with_reducible refine frA_sr ?_ | with_reducible exact frA_gd | with_reducible exact frA_gdZ | with_reducible exact fr_K_Reader_keyword_40 | with_reducible refine frA_bn ?_ fun _ => ?_ | with_reducible refine frA_ite ?_ ?_ | omega
theorem fr_K_Reader_keyword_8 {x1 : Int32} {x2 : Int32} {x3 : Int32} {x4 : Int32} {x5 : Int32} : frA (K_Reader_keyword_8 x1 x2 x3 x4 x5) := by
  unfold K_Reader_keyword_8
  repeat' first | with_reducible exact frA_rt | with_reducible exact frA_rd | with_reducible exact frA_ld | with_reducible refine frA_wr ?_ | with_reducible refine frA_sr ?_ | with_reducible exact frA_gd | with_reducible exact frA_gdZ | with_reducible exact fr_B_Reader_keyword_8 | with_reducible refine frA_bn ?_ fun _ => ?_ | with_reducible refine frA_ite ?_ ?_ | with_reducible refine frA_lp fun _ => ?_ | omega
theorem fr_F_Reader_keyword {x1 : Int32} {x2 : Int32} : frA (F_Reader_keyword x1 x2) := by
  unfold F_Reader_keyword
  repeat' first | with_reducible exact frA_rt | with_reducible exact frA_rd | with_reducible exact frA_ld | with_reducible refine frA_wr ?_ | with_reducible refine frA_sr ?_ | with_reducible exact frA_gd | with_reducible exact frA_gdZ | with_reducible exact fr_K_Reader_keyword_8 | with_reducible refine frA_bn ?_ fun _ => ?_ | with_reducible refine frA_ite ?_ ?_ | omega
theorem fr_B_Reader_numberAt_5 {x1 : Int32} {x2 : Int32} {y : Int32 × Int32} : frA (B_Reader_numberAt_5 x1 x2 y) := by
  unfold B_Reader_numberAt_5
  repeat' first | with_reducible exact frA_rt | with_reducible exact frA_rd | with_reducible exact frA_ld | with_reducible refine frA_wr ?_ | with_reducible refine frA_sr ?_ | with_reducible exact frA_gd | with_reducible exact frA_gdZ | with_reducible refine frA_bn ?_ fun _ => ?_ | with_reducible refine frA_ite ?_ ?_ | omega
theorem fr_K_Reader_numberAt_5 {x1 : Int32} {x2 : Int32} {x3 : Int32} {x4 : Int32} : frA (K_Reader_numberAt_5 x1 x2 x3 x4) := by
  unfold K_Reader_numberAt_5
  repeat' first | with_reducible exact frA_rt | with_reducible exact frA_rd | with_reducible exact frA_ld | with_reducible refine frA_wr ?_ | with_reducible refine frA_sr ?_ | with_reducible exact frA_gd | with_reducible exact frA_gdZ | with_reducible exact fr_B_Reader_numberAt_5 | with_reducible refine frA_bn ?_ fun _ => ?_ | with_reducible refine frA_ite ?_ ?_ | with_reducible refine frA_lp fun _ => ?_ | omega
theorem fr_F_Reader_numberAt {x1 : Int32} {x2 : Int32} : frA (F_Reader_numberAt x1 x2) := by
  unfold F_Reader_numberAt
  repeat' first | with_reducible exact frA_rt | with_reducible exact frA_rd | with_reducible exact frA_ld | with_reducible refine frA_wr ?_ | with_reducible refine frA_sr ?_ | with_reducible exact frA_gd | with_reducible exact frA_gdZ | with_reducible exact fr_K_Reader_numberAt_5 | with_reducible refine frA_bn ?_ fun _ => ?_ | with_reducible refine frA_ite ?_ ?_ | omega
theorem fr_B_Reader_cutIntoTokens_36 {x1 : Int32} {x2 : Int32} {y : Int32} : frA (B_Reader_cutIntoTokens_36 x1 x2 y) := by
  unfold B_Reader_cutIntoTokens_36
  repeat' first | with_reducible exact frA_rt | with_reducible exact frA_rd | with_reducible exact frA_ld | with_reducible refine frA_wr ?_ | with_reducible refine frA_sr ?_ | with_reducible exact frA_gd | with_reducible exact frA_gdZ | with_reducible exact fr_F_Reader_isLetter | with_reducible refine frA_bn ?_ fun _ => ?_ | with_reducible refine frA_ite ?_ ?_ | omega
theorem fr_K_Reader_cutIntoTokens_61 {x1 : Int32} {x2 : Int32} {x4 : Int32} : frA (K_Reader_cutIntoTokens_61 x1 x2 x4) := by
  unfold K_Reader_cutIntoTokens_61
  repeat' first | with_reducible exact frA_rt | with_reducible exact frA_rd | with_reducible exact frA_ld | with_reducible refine frA_wr ?_ | with_reducible refine frA_sr ?_ | with_reducible exact frA_gd | with_reducible exact frA_gdZ | with_reducible exact fr_F_Reader_keyword | with_reducible exact fr_F_Reader_addToken | with_reducible refine frA_bn ?_ fun _ => ?_ | with_reducible refine frA_ite ?_ ?_ | omega
theorem fr_K_Reader_cutIntoTokens_36 {x1 : Int32} {x2 : Int32} {x4 : Int32} : frA (K_Reader_cutIntoTokens_36 x1 x2 x4) := by
  unfold K_Reader_cutIntoTokens_36
  repeat' first | with_reducible exact frA_rt | with_reducible exact frA_rd | with_reducible exact frA_ld | with_reducible refine frA_wr ?_ | with_reducible refine frA_sr ?_ | with_reducible exact frA_gd | with_reducible exact frA_gdZ | with_reducible exact fr_B_Reader_cutIntoTokens_36 | with_reducible exact fr_K_Reader_cutIntoTokens_61 | with_reducible refine frA_bn ?_ fun _ => ?_ | with_reducible refine frA_ite ?_ ?_ | with_reducible refine frA_lp fun _ => ?_ | omega
theorem fr_B_Reader_cutIntoTokens_98 {x1 : Int32} {x2 : Int32} {y : Int32} : frA (B_Reader_cutIntoTokens_98 x1 x2 y) := by
  unfold B_Reader_cutIntoTokens_98
  repeat' first | with_reducible exact frA_rt | with_reducible exact frA_rd | with_reducible exact frA_ld | with_reducible refine frA_wr ?_ | with_reducible refine frA_sr ?_ | with_reducible exact frA_gd | with_reducible exact frA_gdZ | with_reducible exact fr_F_Reader_isDigit | with_reducible refine frA_bn ?_ fun _ => ?_ | with_reducible refine frA_ite ?_ ?_ | omega
theorem fr_K_Reader_cutIntoTokens_123 {x1 : Int32} {x2 : Int32} {x4 : Int32} : frA (K_Reader_cutIntoTokens_123 x1 x2 x4) := by
  unfold K_Reader_cutIntoTokens_123
  repeat' first | with_reducible exact frA_rt | with_reducible exact frA_rd | with_reducible exact frA_ld | with_reducible refine frA_wr ?_ | with_reducible refine frA_sr ?_ | with_reducible exact frA_gd | with_reducible exact frA_gdZ | with_reducible exact fr_F_Reader_numberAt | with_reducible exact fr_F_Reader_addToken | with_reducible refine frA_bn ?_ fun _ => ?_ | with_reducible refine frA_ite ?_ ?_ | omega
theorem fr_K_Reader_cutIntoTokens_98 {x1 : Int32} {x2 : Int32} {x4 : Int32} : frA (K_Reader_cutIntoTokens_98 x1 x2 x4) := by
  unfold K_Reader_cutIntoTokens_98
  repeat' first | with_reducible exact frA_rt | with_reducible exact frA_rd | with_reducible exact frA_ld | with_reducible refine frA_wr ?_ | with_reducible refine frA_sr ?_ | with_reducible exact frA_gd | with_reducible exact frA_gdZ | with_reducible exact fr_B_Reader_cutIntoTokens_98 | with_reducible exact fr_K_Reader_cutIntoTokens_123 | with_reducible refine frA_bn ?_ fun _ => ?_ | with_reducible refine frA_ite ?_ ?_ | with_reducible refine frA_lp fun _ => ?_ | omega
theorem fr_B_Reader_cutIntoTokens_12 {x1 : Int32} {y : Int32} : frA (B_Reader_cutIntoTokens_12 x1 y) := by
  unfold B_Reader_cutIntoTokens_12
  repeat' first | with_reducible exact frA_rt | with_reducible exact frA_rd | with_reducible exact frA_ld | with_reducible refine frA_wr ?_ | with_reducible refine frA_sr ?_ | with_reducible exact frA_gd | with_reducible exact frA_gdZ | with_reducible exact fr_F_Reader_isLetter | with_reducible exact fr_F_Reader_isDigit | with_reducible exact fr_F_Reader_addToken | with_reducible exact fr_K_Reader_cutIntoTokens_98 | with_reducible exact fr_K_Reader_cutIntoTokens_36 | with_reducible refine frA_bn ?_ fun _ => ?_ | with_reducible refine frA_ite ?_ ?_ | omega
theorem fr_K_Reader_cutIntoTokens_12 {x1 : Int32} {x2 : Int32} : frA (K_Reader_cutIntoTokens_12 x1 x2) := by
  unfold K_Reader_cutIntoTokens_12
  repeat' first | with_reducible exact frA_rt | with_reducible exact frA_rd | with_reducible exact frA_ld | with_reducible refine frA_wr ?_ | with_reducible refine frA_sr ?_ | with_reducible exact frA_gd | with_reducible exact frA_gdZ | with_reducible exact fr_B_Reader_cutIntoTokens_12 | with_reducible refine frA_bn ?_ fun _ => ?_ | with_reducible refine frA_ite ?_ ?_ | with_reducible refine frA_lp fun _ => ?_ | omega
theorem fr_F_Reader_cutIntoTokens {x1 : Int32} : frA (F_Reader_cutIntoTokens x1) := by
  unfold F_Reader_cutIntoTokens
  repeat' first | with_reducible exact frA_rt | with_reducible exact frA_rd | with_reducible exact frA_ld | with_reducible refine frA_wr ?_ | with_reducible refine frA_sr ?_ | with_reducible exact frA_gd | with_reducible exact frA_gdZ | with_reducible exact fr_K_Reader_cutIntoTokens_12 | with_reducible refine frA_bn ?_ fun _ => ?_ | with_reducible refine frA_ite ?_ ?_ | omega
theorem fr_F_Reader_countOf {x1 : Int32} : frA (F_Reader_countOf x1) := by
  unfold F_Reader_countOf
  repeat' first | with_reducible exact frA_rt | with_reducible exact frA_rd | with_reducible exact frA_ld | with_reducible refine frA_wr ?_ | with_reducible refine frA_sr ?_ | with_reducible exact frA_gd | with_reducible exact frA_gdZ | with_reducible refine frA_bn ?_ fun _ => ?_ | with_reducible refine frA_ite ?_ ?_ | omega
theorem fr_F_Reader_fail {x1 : Int32} : frA (F_Reader_fail x1) := by
  unfold F_Reader_fail
  repeat' first | with_reducible exact frA_rt | with_reducible exact frA_rd | with_reducible exact frA_ld | with_reducible refine frA_wr ?_ | with_reducible refine frA_sr ?_ | with_reducible exact frA_gd | with_reducible exact frA_gdZ | with_reducible refine frA_bn ?_ fun _ => ?_ | with_reducible refine frA_ite ?_ ?_ | omega
theorem fr_F_Reader_isKeyword {x1 : Int32} : frA (F_Reader_isKeyword x1) := by
  unfold F_Reader_isKeyword
  repeat' first | with_reducible exact frA_rt | with_reducible exact frA_rd | with_reducible exact frA_ld | with_reducible refine frA_wr ?_ | with_reducible refine frA_sr ?_ | with_reducible exact frA_gd | with_reducible exact frA_gdZ | with_reducible refine frA_bn ?_ fun _ => ?_ | with_reducible refine frA_ite ?_ ?_ | omega
theorem fr_F_Reader_step : frA F_Reader_step := by
  unfold F_Reader_step
  repeat' first | with_reducible exact frA_rt | with_reducible exact frA_rd | with_reducible exact frA_ld | with_reducible refine frA_wr ?_ | with_reducible refine frA_sr ?_ | with_reducible exact frA_gd | with_reducible exact frA_gdZ | with_reducible refine frA_bn ?_ fun _ => ?_ | with_reducible refine frA_ite ?_ ?_ | omega
theorem fr_F_Reader_opensLine {x1 : Int32} {r2 : Nat} : frA (F_Reader_opensLine x1 r2) := by
  unfold F_Reader_opensLine
  repeat' first | with_reducible exact frA_rt | with_reducible exact frA_rd | with_reducible exact frA_ld | with_reducible refine frA_wr ?_ | with_reducible refine frA_sr ?_ | with_reducible exact frA_gd | with_reducible exact frA_gdZ | with_reducible exact fr_F_Reader_isKeyword | with_reducible exact fr_F_Reader_fail | with_reducible exact fr_F_Table_isFull | with_reducible exact fr_F_Reader_step | with_reducible refine frA_bn ?_ fun _ => ?_ | with_reducible refine frA_ite ?_ ?_ | omega
theorem fr_F_Reader_stepKeyword {x1 : Int32} : frA (F_Reader_stepKeyword x1) := by
  unfold F_Reader_stepKeyword
  repeat' first | with_reducible exact frA_rt | with_reducible exact frA_rd | with_reducible exact frA_ld | with_reducible refine frA_wr ?_ | with_reducible refine frA_sr ?_ | with_reducible exact frA_gd | with_reducible exact frA_gdZ | with_reducible exact fr_F_Reader_isKeyword | with_reducible exact fr_F_Reader_fail | with_reducible exact fr_F_Reader_step | with_reducible refine frA_bn ?_ fun _ => ?_ | with_reducible refine frA_ite ?_ ?_ | omega
theorem fr_F_Reader_stepNumber {x1 : Int32} {x2 : Int32} : frA (F_Reader_stepNumber x1 x2) := by
  unfold F_Reader_stepNumber
  repeat' first | with_reducible exact frA_rt | with_reducible exact frA_rd | with_reducible exact frA_ld | with_reducible refine frA_wr ?_ | with_reducible refine frA_sr ?_ | with_reducible exact frA_gd | with_reducible exact frA_gdZ | with_reducible exact fr_F_A_within | with_reducible exact fr_F_Reader_fail | with_reducible exact fr_F_Reader_step | with_reducible refine frA_bn ?_ fun _ => ?_ | with_reducible refine frA_ite ?_ ?_ | omega
theorem fr_F_Reader_isSign {x1 : Int32} : frA (F_Reader_isSign x1) := by
  unfold F_Reader_isSign
  repeat' first | with_reducible exact frA_rt | with_reducible exact frA_rd | with_reducible exact frA_ld | with_reducible refine frA_wr ?_ | with_reducible refine frA_sr ?_ | with_reducible exact frA_gd | with_reducible exact frA_gdZ | with_reducible refine frA_bn ?_ fun _ => ?_ | with_reducible refine frA_ite ?_ ?_ | omega
theorem fr_F_Reader_stepSign {x1 : Int32} : frA (F_Reader_stepSign x1) := by
  unfold F_Reader_stepSign
  repeat' first | with_reducible exact frA_rt | with_reducible exact frA_rd | with_reducible exact frA_ld | with_reducible refine frA_wr ?_ | with_reducible refine frA_sr ?_ | with_reducible exact frA_gd | with_reducible exact frA_gdZ | with_reducible exact fr_F_Reader_isSign | with_reducible exact fr_F_Reader_fail | with_reducible exact fr_F_Reader_step | with_reducible refine frA_bn ?_ fun _ => ?_ | with_reducible refine frA_ite ?_ ?_ | omega
theorem fr_K_Reader_diaryLine_189 {x1 : Int32} {x2 : Int32} {x3 : Int32} {x4 : Int32} : frA (K_Reader_diaryLine_189 x1 x2 x3 x4) := by
  unfold K_Reader_diaryLine_189
  repeat' first | with_reducible exact frA_rt | with_reducible exact frA_rd | with_reducible exact frA_ld | with_reducible refine frA_wr ?_ | with_reducible refine frA_sr ?_ | with_reducible exact frA_gd | with_reducible exact frA_gdZ | with_reducible exact fr_F_Reader_stepSign | with_reducible refine fr_F_Table_putWide ?_ | with_reducible refine frA_bn ?_ fun _ => ?_ | with_reducible refine frA_ite ?_ ?_ | omega
theorem fr_K_Reader_diaryLine_117 {x1 : Int32} {x2 : Int32} {x3 : Int32} : frA (K_Reader_diaryLine_117 x1 x2 x3) := by
  unfold K_Reader_diaryLine_117
  repeat' first | with_reducible exact frA_rt | with_reducible exact frA_rd | with_reducible exact frA_ld | with_reducible refine frA_wr ?_ | with_reducible refine frA_sr ?_ | with_reducible exact frA_gd | with_reducible exact frA_gdZ | with_reducible exact fr_F_Reader_step | with_reducible exact fr_F_Reader_countOf | with_reducible exact fr_F_Reader_stepNumber | with_reducible exact fr_K_Reader_diaryLine_189 | with_reducible refine frA_bn ?_ fun _ => ?_ | with_reducible refine frA_ite ?_ ?_ | omega
theorem fr_F_Reader_diaryLine : frA F_Reader_diaryLine := by
  unfold F_Reader_diaryLine
  repeat' first | with_reducible exact frA_rt | with_reducible exact frA_rd | with_reducible exact frA_ld | with_reducible refine frA_wr ?_ | with_reducible refine frA_sr ?_ | with_reducible exact frA_gd | with_reducible exact frA_gdZ | with_reducible exact fr_F_Reader_opensLine | with_reducible exact fr_F_Reader_stepNumber | with_reducible exact fr_F_Reader_stepKeyword | with_reducible exact fr_K_Reader_diaryLine_117 | with_reducible exact fr_F_Reader_fail | with_reducible refine frA_bn ?_ fun _ => ?_ | with_reducible refine frA_ite ?_ ?_ | omega
theorem fr_F_Law_add {r0 : Nat} {x1 : Int32} (hr0 : r0 + 3 < 207) : frA (F_Law_add r0 x1) := by
  unfold F_Law_add
  repeat' first | with_reducible exact frA_rt | with_reducible exact frA_rd | with_reducible exact frA_ld | with_reducible refine frA_wr ?_ | with_reducible refine frA_sr ?_ | with_reducible exact frA_gd | with_reducible exact frA_gdZ | with_reducible refine frA_bn ?_ fun _ => ?_ | with_reducible refine frA_ite ?_ ?_ | omega
theorem fr_F_Reader_comparison : frA F_Reader_comparison := by
  unfold F_Reader_comparison
  repeat' first | with_reducible exact frA_rt | with_reducible exact frA_rd | with_reducible exact frA_ld | with_reducible refine frA_wr ?_ | with_reducible refine frA_sr ?_ | with_reducible exact frA_gd | with_reducible exact frA_gdZ | with_reducible exact fr_F_Reader_isSign | with_reducible refine frA_bn ?_ fun _ => ?_ | with_reducible refine frA_ite ?_ ?_ | omega
theorem fr_F_Reader_isReckoning : frA F_Reader_isReckoning := by
  unfold F_Reader_isReckoning
  repeat' first | with_reducible exact frA_rt | with_reducible exact frA_rd | with_reducible exact frA_ld | with_reducible refine frA_wr ?_ | with_reducible refine frA_sr ?_ | with_reducible exact frA_gd | with_reducible exact frA_gdZ | with_reducible exact fr_F_Reader_isSign | with_reducible refine frA_bn ?_ fun _ => ?_ | with_reducible refine frA_ite ?_ ?_ | omega
theorem fr_F_Reader_part : frA F_Reader_part := by
  unfold F_Reader_part
  repeat' first | with_reducible exact frA_rt | with_reducible exact frA_rd | with_reducible exact frA_ld | with_reducible refine frA_wr ?_ | with_reducible refine frA_sr ?_ | with_reducible exact frA_gd | with_reducible exact frA_gdZ | with_reducible exact fr_F_Reader_fail | with_reducible refine fr_F_Law_add ?_ | with_reducible exact fr_F_Reader_step | with_reducible refine frA_bn ?_ fun _ => ?_ | with_reducible refine frA_ite ?_ ?_ | omega
theorem fr_F_Reader_unit : frA F_Reader_unit := by
  unfold F_Reader_unit
  repeat' first | with_reducible exact frA_rt | with_reducible exact frA_rd | with_reducible exact frA_ld | with_reducible refine frA_wr ?_ | with_reducible refine frA_sr ?_ | with_reducible exact frA_gd | with_reducible exact frA_gdZ | with_reducible refine fr_F_Law_add ?_ | with_reducible exact fr_F_Reader_step | with_reducible exact fr_F_A_within | with_reducible exact fr_F_Reader_fail | with_reducible refine frA_bn ?_ fun _ => ?_ | with_reducible refine frA_ite ?_ ?_ | omega
theorem fr_K_Reader_sum_130 {x1 : Int32} {x2 : Int32} {x3 : Int32} : frA (K_Reader_sum_130 x1 x2 x3) := by
  unfold K_Reader_sum_130
  repeat' first | with_reducible exact frA_rt | with_reducible exact frA_rd | with_reducible exact frA_ld | with_reducible refine frA_wr ?_ | with_reducible refine frA_sr ?_ | with_reducible exact frA_gd | with_reducible exact frA_gdZ | with_reducible refine fr_F_Law_add ?_ | with_reducible refine frA_bn ?_ fun _ => ?_ | with_reducible refine frA_ite ?_ ?_ | omega
theorem fr_K_Reader_sum_89 {x1 : Int32} {x2 : Int32} {x3 : Int32} : frA (K_Reader_sum_89 x1 x2 x3) := by
  unfold K_Reader_sum_89
  repeat' first | with_reducible exact frA_rt | with_reducible exact frA_rd | with_reducible exact frA_ld | with_reducible refine frA_wr ?_ | with_reducible refine frA_sr ?_ | with_reducible exact frA_gd | with_reducible exact frA_gdZ | with_reducible exact fr_F_Reader_step | with_reducible exact fr_F_Reader_part | with_reducible exact fr_K_Reader_sum_130 | with_reducible exact fr_F_Reader_unit | with_reducible refine frA_bn ?_ fun _ => ?_ | with_reducible refine frA_ite ?_ ?_ | omega
theorem fr_K_Reader_sum_64 {x1 : Int32} {x2 : Int32} {x3 : Int32} : frA (K_Reader_sum_64 x1 x2 x3) := by
  unfold K_Reader_sum_64
  repeat' first | with_reducible exact frA_rt | with_reducible exact frA_rd | with_reducible exact frA_ld | with_reducible refine frA_wr ?_ | with_reducible refine frA_sr ?_ | with_reducible exact frA_gd | with_reducible exact frA_gdZ | with_reducible exact fr_K_Reader_sum_89 | with_reducible refine frA_bn ?_ fun _ => ?_ | with_reducible refine frA_ite ?_ ?_ | omega
theorem fr_B_Reader_sum_13 {y : Int32 × Int32} : frA (B_Reader_sum_13 y) := by
  unfold B_Reader_sum_13
  repeat' first | with_reducible exact frA_rt | with_reducible exact frA_rd | with_reducible exact frA_ld | with_reducible refine frA_wr ?_ | with_reducible refine frA_sr ?_ | with_reducible exact frA_gd | with_reducible exact frA_gdZ | with_reducible exact fr_F_Reader_isReckoning | with_reducible exact fr_K_Reader_sum_64 | with_reducible refine fr_F_Law_add ?_ | with_reducible refine frA_bn ?_ fun _ => ?_ | with_reducible refine frA_ite ?_ ?_ | omega
theorem fr_K_Reader_sum_159 {x1 : Int32} : frA (K_Reader_sum_159 x1) := by
  unfold K_Reader_sum_159
  repeat' first | with_reducible exact frA_rt | with_reducible exact frA_rd | with_reducible exact frA_ld | with_reducible refine frA_wr ?_ | with_reducible refine frA_sr ?_ | with_reducible exact frA_gd | with_reducible exact frA_gdZ | with_reducible refine fr_F_Law_add ?_ | with_reducible refine frA_bn ?_ fun _ => ?_ | with_reducible refine frA_ite ?_ ?_ | omega
theorem fr_K_Reader_sum_13 {x1 : Int32} {x2 : Int32} : frA (K_Reader_sum_13 x1 x2) := by
  unfold K_Reader_sum_13
  repeat' first | with_reducible exact frA_rt | with_reducible exact frA_rd | with_reducible exact frA_ld | with_reducible refine frA_wr ?_ | with_reducible refine frA_sr ?_ | with_reducible exact frA_gd | with_reducible exact frA_gdZ | with_reducible exact fr_B_Reader_sum_13 | with_reducible exact fr_K_Reader_sum_159 | with_reducible refine frA_bn ?_ fun _ => ?_ | with_reducible refine frA_ite ?_ ?_ | with_reducible refine frA_lp fun _ => ?_ | split | omega
theorem fr_F_Reader_sum : frA F_Reader_sum := by
  unfold F_Reader_sum
  repeat' first | with_reducible exact frA_rt | with_reducible exact frA_rd | with_reducible exact frA_ld | with_reducible refine frA_wr ?_ | with_reducible refine frA_sr ?_ | with_reducible exact frA_gd | with_reducible exact frA_gdZ | with_reducible exact fr_F_Reader_unit | with_reducible exact fr_K_Reader_sum_13 | with_reducible refine frA_bn ?_ fun _ => ?_ | with_reducible refine frA_ite ?_ ?_ | omega
theorem fr_F_Reader_opens {x1 : Int32} : frA (F_Reader_opens x1) := by
  unfold F_Reader_opens
  repeat' first | with_reducible exact frA_rt | with_reducible exact frA_rd | with_reducible exact frA_ld | with_reducible refine frA_wr ?_ | with_reducible refine frA_sr ?_ | with_reducible exact frA_gd | with_reducible exact frA_gdZ | with_reducible exact fr_F_Reader_step | with_reducible exact fr_F_Reader_fail | with_reducible refine frA_bn ?_ fun _ => ?_ | with_reducible refine frA_ite ?_ ?_ | omega
theorem fr_K_Reader_condition_74 {f_Reader_single : Int32 → M Int32} {x1 : Int32} {x3 : Int32} {x4 : Int32} (hReader_single : ∀ a, frA (f_Reader_single a)) : frA (K_Reader_condition_74 f_Reader_single x1 x3 x4) := by
  unfold K_Reader_condition_74
  repeat' first | with_reducible exact frA_rt | with_reducible exact frA_rd | with_reducible exact frA_ld | with_reducible refine frA_wr ?_ | with_reducible refine frA_sr ?_ | with_reducible exact frA_gd | with_reducible exact frA_gdZ | with_reducible exact fr_F_Reader_step | with_reducible refine fr_F_Law_add ?_ | with_reducible exact hReader_single _ | with_reducible refine frA_bn ?_ fun _ => ?_ | with_reducible refine frA_ite ?_ ?_ | omega
theorem fr_K_Reader_condition_65 {f_Reader_single : Int32 → M Int32} {x1 : Int32} {x2 : Int32} {x3 : Int32} {x4 : Int32} (hReader_single : ∀ a, frA (f_Reader_single a)) : frA (K_Reader_condition_65 f_Reader_single x1 x2 x3 x4) := by
  unfold K_Reader_condition_65
  repeat' first | with_reducible exact frA_rt | with_reducible exact frA_rd | with_reducible exact frA_ld | with_reducible refine frA_wr ?_ | with_reducible refine frA_sr ?_ | with_reducible exact frA_gd | with_reducible exact frA_gdZ | with_reducible exact fr_K_Reader_condition_74 hReader_single | with_reducible exact fr_F_Reader_step | with_reducible refine fr_F_Law_add ?_ | with_reducible exact hReader_single _ | with_reducible refine frA_bn ?_ fun _ => ?_ | with_reducible refine frA_ite ?_ ?_ | omega
theorem fr_B_Reader_condition_14 {f_Reader_single : Int32 → M Int32} {x1 : Int32} {y : Int32 × Int32} (hReader_single : ∀ a, frA (f_Reader_single a)) : frA (B_Reader_condition_14 f_Reader_single x1 y) := by
  unfold B_Reader_condition_14
  repeat' first | with_reducible exact frA_rt | with_reducible exact frA_rd | with_reducible exact frA_ld | with_reducible refine frA_wr ?_ | with_reducible refine frA_sr ?_ | with_reducible exact frA_gd | with_reducible exact frA_gdZ | with_reducible exact fr_F_Reader_isKeyword | with_reducible exact fr_K_Reader_condition_65 hReader_single | with_reducible refine fr_F_Law_add ?_ | with_reducible exact hReader_single _ | with_reducible refine frA_bn ?_ fun _ => ?_ | with_reducible refine frA_ite ?_ ?_ | omega
theorem fr_K_Reader_condition_117 {f_Reader_single : Int32 → M Int32} {x2 : Int32} (hReader_single : ∀ a, frA (f_Reader_single a)) : frA (K_Reader_condition_117 f_Reader_single x2) := by
  unfold K_Reader_condition_117
  repeat' first | with_reducible exact frA_rt | with_reducible exact frA_rd | with_reducible exact frA_ld | with_reducible refine frA_wr ?_ | with_reducible refine frA_sr ?_ | with_reducible exact frA_gd | with_reducible exact frA_gdZ | with_reducible refine fr_F_Law_add ?_ | with_reducible exact hReader_single _ | with_reducible refine frA_bn ?_ fun _ => ?_ | with_reducible refine frA_ite ?_ ?_ | omega
theorem fr_K_Reader_condition_14 {f_Reader_single : Int32 → M Int32} {x1 : Int32} {x2 : Int32} {x3 : Int32} (hReader_single : ∀ a, frA (f_Reader_single a)) : frA (K_Reader_condition_14 f_Reader_single x1 x2 x3) := by
  unfold K_Reader_condition_14
  repeat' first | with_reducible exact frA_rt | with_reducible exact frA_rd | with_reducible exact frA_ld | with_reducible refine frA_wr ?_ | with_reducible refine frA_sr ?_ | with_reducible exact frA_gd | with_reducible exact frA_gdZ | with_reducible exact fr_B_Reader_condition_14 hReader_single | with_reducible exact fr_K_Reader_condition_117 hReader_single | with_reducible exact hReader_single _ | with_reducible refine frA_bn ?_ fun _ => ?_ | with_reducible refine frA_ite ?_ ?_ | with_reducible refine frA_lp fun _ => ?_ | split | omega
theorem fr_K_Reader_condition_0 {f_Reader_single : Int32 → M Int32} {x1 : Int32} (hReader_single : ∀ a, frA (f_Reader_single a)) : frA (K_Reader_condition_0 f_Reader_single x1) := by
  unfold K_Reader_condition_0
  repeat' first | with_reducible exact frA_rt | with_reducible exact frA_rd | with_reducible exact frA_ld | with_reducible refine frA_wr ?_ | with_reducible refine frA_sr ?_ | with_reducible exact frA_gd | with_reducible exact frA_gdZ | with_reducible exact fr_K_Reader_condition_14 hReader_single | with_reducible exact hReader_single _ | with_reducible refine frA_bn ?_ fun _ => ?_ | with_reducible refine frA_ite ?_ ?_ | omega
theorem fr_K_Reader_single_0 {f_Reader_denied : Int32 → M Int32} {f_Reader_enclosed : Int32 → M Int32} {x1 : Int32} (hReader_denied : ∀ a, frA (f_Reader_denied a)) (hReader_enclosed : ∀ a, frA (f_Reader_enclosed a)) : frA (K_Reader_single_0 f_Reader_denied f_Reader_enclosed x1) := by
  unfold K_Reader_single_0
  repeat' first | with_reducible exact frA_rt | with_reducible exact frA_rd | with_reducible exact frA_ld | with_reducible refine frA_wr ?_ | with_reducible refine frA_sr ?_ | with_reducible exact frA_gd | with_reducible exact frA_gdZ | with_reducible exact fr_F_Reader_isKeyword | with_reducible exact fr_F_Reader_isSign | with_reducible exact fr_F_Reader_sum | with_reducible exact fr_F_Reader_comparison | with_reducible exact fr_F_Reader_fail | with_reducible exact fr_F_Reader_step | with_reducible refine fr_F_Law_add ?_ | with_reducible exact hReader_denied _ | with_reducible exact hReader_enclosed _ | with_reducible refine frA_bn ?_ fun _ => ?_ | with_reducible refine frA_ite ?_ ?_ | omega
theorem fr_K_Reader_denied_0 {f_Reader_single : Int32 → M Int32} {x1 : Int32} (hReader_single : ∀ a, frA (f_Reader_single a)) : frA (K_Reader_denied_0 f_Reader_single x1) := by
  unfold K_Reader_denied_0
  repeat' first | with_reducible exact frA_rt | with_reducible exact frA_rd | with_reducible exact frA_ld | with_reducible refine frA_wr ?_ | with_reducible refine frA_sr ?_ | with_reducible exact frA_gd | with_reducible exact frA_gdZ | with_reducible exact fr_F_Reader_opens | with_reducible refine fr_F_Law_add ?_ | with_reducible exact hReader_single _ | with_reducible refine frA_bn ?_ fun _ => ?_ | with_reducible refine frA_ite ?_ ?_ | omega
theorem fr_K_Reader_enclosed_0 {f_Reader_condition : Int32 → M Int32} {x1 : Int32} (hReader_condition : ∀ a, frA (f_Reader_condition a)) : frA (K_Reader_enclosed_0 f_Reader_condition x1) := by
  unfold K_Reader_enclosed_0
  repeat' first | with_reducible exact frA_rt | with_reducible exact frA_rd | with_reducible exact frA_ld | with_reducible refine frA_wr ?_ | with_reducible refine frA_sr ?_ | with_reducible exact frA_gd | with_reducible exact frA_gdZ | with_reducible exact fr_F_Reader_opens | with_reducible exact fr_F_Reader_stepSign | with_reducible exact hReader_condition _ | with_reducible refine frA_bn ?_ fun _ => ?_ | with_reducible refine frA_ite ?_ ?_ | omega
theorem fr_G_Reader_cs : ∀ (n : Nat), (∀ a, frA ((G_Reader_cs n).1 a)) ∧ ∀ a, frA ((G_Reader_cs n).2 a) := by
  intro n
  induction n with
  | zero => exact ⟨fun a => frA_fl, fun a => frA_fl⟩
  | succ n ih => exact ⟨fun a => fr_K_Reader_condition_0 ih.2, fun a => fr_K_Reader_single_0 (fun _ => fr_K_Reader_denied_0 ih.2) (fun _ => fr_K_Reader_enclosed_0 ih.1)⟩
theorem fr_F_Reader_condition {a : Int32} : frA (F_Reader_condition a) := (fr_G_Reader_cs 60).1 a
theorem fr_F_Reader_single {a : Int32} : frA (F_Reader_single a) := (fr_G_Reader_cs 60).2 a
theorem fr_K_Reader_lawLine_115 {x1 : Int32} {x2 : Int32} {x3 : Int32} : frA (K_Reader_lawLine_115 x1 x2 x3) := by
  unfold K_Reader_lawLine_115
  repeat' first | with_reducible exact frA_rt | with_reducible exact frA_rd | with_reducible exact frA_ld | with_reducible refine frA_wr ?_ | with_reducible refine frA_sr ?_ | with_reducible exact frA_gd | with_reducible exact frA_gdZ | with_reducible exact fr_F_Reader_stepSign | with_reducible refine fr_F_Table_putWide ?_ | with_reducible refine frA_bn ?_ fun _ => ?_ | with_reducible refine frA_ite ?_ ?_ | omega
theorem fr_F_Reader_lawLine : frA F_Reader_lawLine := by
  unfold F_Reader_lawLine
  repeat' first | with_reducible exact frA_rt | with_reducible exact frA_rd | with_reducible exact frA_ld | with_reducible refine frA_wr ?_ | with_reducible refine frA_sr ?_ | with_reducible exact frA_gd | with_reducible exact frA_gdZ | with_reducible exact fr_F_A_within | with_reducible exact fr_F_Reader_fail | with_reducible exact fr_F_Reader_opensLine | with_reducible exact fr_F_Reader_sum | with_reducible exact fr_F_Reader_isKeyword | with_reducible exact fr_K_Reader_lawLine_115 | with_reducible exact fr_F_Reader_step | with_reducible exact fr_F_Reader_condition | with_reducible refine frA_bn ?_ fun _ => ?_ | with_reducible refine frA_ite ?_ ?_ | omega
theorem fr_F_Reader_shareLine : frA F_Reader_shareLine := by
  unfold F_Reader_shareLine
  repeat' first | with_reducible exact frA_rt | with_reducible exact frA_rd | with_reducible exact frA_ld | with_reducible refine frA_wr ?_ | with_reducible refine frA_sr ?_ | with_reducible exact frA_gd | with_reducible exact frA_gdZ | with_reducible exact fr_F_Reader_opensLine | with_reducible exact fr_F_Reader_stepNumber | with_reducible exact fr_F_Reader_stepKeyword | with_reducible exact fr_F_Reader_stepSign | with_reducible refine fr_F_Table_putWide ?_ | with_reducible refine frA_bn ?_ fun _ => ?_ | with_reducible refine frA_ite ?_ ?_ | omega
theorem fr_K_Reader_wayLine_76 {x1 : Int32} : frA (K_Reader_wayLine_76 x1) := by
  unfold K_Reader_wayLine_76
  repeat' first | with_reducible exact frA_rt | with_reducible exact frA_rd | with_reducible exact frA_ld | with_reducible refine frA_wr ?_ | with_reducible refine frA_sr ?_ | with_reducible exact frA_gd | with_reducible exact frA_gdZ | with_reducible exact fr_F_Reader_stepNumber | with_reducible exact fr_F_Reader_stepSign | with_reducible refine fr_F_Table_put ?_ | with_reducible refine frA_bn ?_ fun _ => ?_ | with_reducible refine frA_ite ?_ ?_ | omega
theorem fr_F_Reader_wayLine : frA F_Reader_wayLine := by
  unfold F_Reader_wayLine
  repeat' first | with_reducible exact frA_rt | with_reducible exact frA_rd | with_reducible exact frA_ld | with_reducible refine frA_wr ?_ | with_reducible refine frA_sr ?_ | with_reducible exact frA_gd | with_reducible exact frA_gdZ | with_reducible exact fr_F_Reader_opensLine | with_reducible exact fr_F_Reader_stepNumber | with_reducible exact fr_F_Reader_stepKeyword | with_reducible exact fr_F_Reader_fail | with_reducible exact fr_K_Reader_wayLine_76 | with_reducible refine frA_bn ?_ fun _ => ?_ | with_reducible refine frA_ite ?_ ?_ | omega
theorem fr_F_Law_clear {r0 : Nat} (hr0 : r0 + 1 < 207) : frA (F_Law_clear r0) := by
  unfold F_Law_clear
  repeat' first | with_reducible exact frA_rt | with_reducible exact frA_rd | with_reducible exact frA_ld | with_reducible refine frA_wr ?_ | with_reducible refine frA_sr ?_ | with_reducible exact frA_gd | with_reducible exact frA_gdZ | with_reducible refine fr_F_Table_wipe ?_ | with_reducible refine frA_bn ?_ fun _ => ?_ | with_reducible refine frA_ite ?_ ?_ | omega
theorem fr_F_Texts_clear {r0 : Nat} {x1 : Int32} (hr0 : r0 + 12 < 207) : frA (F_Texts_clear r0 x1) := by
  unfold F_Texts_clear
  unfold F_Texts_table
  simp only [bn_ite, bn_rt]
  repeat' first | with_reducible exact frA_rt | with_reducible exact frA_rd | with_reducible exact frA_ld | with_reducible refine frA_wr ?_ | with_reducible refine frA_sr ?_ | with_reducible exact frA_gd | with_reducible exact frA_gdZ | with_reducible refine fr_F_Law_clear ?_ | with_reducible exact fr_F_Texts_table | with_reducible refine fr_F_Table_wipe ?_ | with_reducible refine frA_bn ?_ fun _ => ?_ | with_reducible refine frA_ite ?_ ?_ | omega
theorem fr_B_Reader_read_46 {x1 : Int32} {y : Int32} : frA (B_Reader_read_46 x1 y) := by
  unfold B_Reader_read_46
  repeat' first | with_reducible exact frA_rt | with_reducible exact frA_rd | with_reducible exact frA_ld | with_reducible refine frA_wr ?_ | with_reducible refine frA_sr ?_ | with_reducible exact frA_gd | with_reducible exact frA_gdZ | with_reducible refine fr_F_Texts_take ?_ | with_reducible exact fr_F_Reader_lawLine | with_reducible exact fr_F_Reader_shareLine | with_reducible exact fr_F_Reader_diaryLine | with_reducible exact fr_F_Reader_wayLine | with_reducible refine frA_bn ?_ fun _ => ?_ | with_reducible refine frA_ite ?_ ?_ | omega
theorem fr_K_Reader_read_46 {x1 : Int32} {x3 : Int32} : frA (K_Reader_read_46 x1 x3) := by
  unfold K_Reader_read_46
  repeat' first | with_reducible exact frA_rt | with_reducible exact frA_rd | with_reducible exact frA_ld | with_reducible refine frA_wr ?_ | with_reducible refine frA_sr ?_ | with_reducible exact frA_gd | with_reducible exact frA_gdZ | with_reducible exact fr_B_Reader_read_46 | with_reducible refine frA_bn ?_ fun _ => ?_ | with_reducible refine frA_ite ?_ ?_ | with_reducible refine frA_lp fun _ => ?_ | omega
theorem fr_F_Reader_read {x1 : Int32} : frA (F_Reader_read x1) := by
  unfold F_Reader_read
  repeat' first | with_reducible exact frA_rt | with_reducible exact frA_rd | with_reducible exact frA_ld | with_reducible refine frA_wr ?_ | with_reducible refine frA_sr ?_ | with_reducible exact frA_gd | with_reducible exact frA_gdZ | with_reducible exact fr_F_A_within | with_reducible exact fr_F_Reader_cutIntoTokens | with_reducible refine fr_F_Texts_clear ?_ | with_reducible exact fr_K_Reader_read_46 | with_reducible refine frA_bn ?_ fun _ => ?_ | with_reducible refine frA_ite ?_ ?_ | omega
theorem fr_K_A_text_19 {x2 : Int32} : frA (K_A_text_19 x2) := by
  unfold K_A_text_19
  repeat' first | with_reducible exact frA_rt | with_reducible exact frA_rd | with_reducible exact frA_ld | with_reducible refine frA_wr ?_ | with_reducible refine frA_sr ?_ | with_reducible exact frA_gd | with_reducible exact frA_gdZ | with_reducible exact fr_F_A_forget | with_reducible refine frA_bn ?_ fun _ => ?_ | with_reducible refine frA_ite ?_ ?_ | omega
theorem fr_F_A_text {x1 : Int32} : frA (F_A_text x1) := by
  unfold F_A_text
  repeat' first | with_reducible exact frA_rt | with_reducible exact frA_rd | with_reducible exact frA_ld | with_reducible refine frA_wr ?_ | with_reducible refine frA_sr ?_ | with_reducible exact frA_gd | with_reducible exact frA_gdZ | with_reducible exact fr_F_Reader_read | with_reducible exact fr_K_A_text_19 | with_reducible exact fr_F_A_forget | with_reducible refine frA_bn ?_ fun _ => ?_ | with_reducible refine frA_ite ?_ ?_ | omega
theorem fr_F_A_undo : frA F_A_undo := by
  unfold F_A_undo
  repeat' first | with_reducible exact frA_rt | with_reducible exact frA_rd | with_reducible exact frA_ld | with_reducible refine frA_wr ?_ | with_reducible refine frA_sr ?_ | with_reducible exact frA_gd | with_reducible exact frA_gdZ | with_reducible refine fr_F_World_become ?_ | with_reducible refine frA_bn ?_ fun _ => ?_ | with_reducible refine frA_ite ?_ ?_ | with_reducible refine frA_dvI ?_ | omega
theorem fr_F_A_vote {x1 : Int32} : frA (F_A_vote x1) := by
  unfold F_A_vote
  repeat' first | with_reducible exact frA_rt | with_reducible exact frA_rd | with_reducible exact frA_ld | with_reducible refine frA_wr ?_ | with_reducible refine frA_sr ?_ | with_reducible exact frA_gd | with_reducible exact frA_gdZ | with_reducible refine fr_F_Table_wipe ?_ | with_reducible exact fr_F_A_within | with_reducible refine fr_F_Table_put ?_ | with_reducible refine frA_bn ?_ fun _ => ?_ | with_reducible refine frA_ite ?_ ?_ | omega
theorem fr_F_A_who {x1 : Int32} {x2 : Int32} : frA (F_A_who x1 x2) := by
  unfold F_A_who
  repeat' first | with_reducible exact frA_rt | with_reducible exact frA_rd | with_reducible exact frA_ld | with_reducible refine frA_wr ?_ | with_reducible refine frA_sr ?_ | with_reducible exact frA_gd | with_reducible exact frA_gdZ | with_reducible exact fr_F_World_isPerson | with_reducible exact fr_F_World_aliasesOf | with_reducible refine frA_bn ?_ fun _ => ?_ | with_reducible refine frA_ite ?_ ?_ | omega
theorem fr_F_R_isAlias {x1 : Int32} : frR (F_R_isAlias x1) := by
  unfold F_R_isAlias
  repeat' first | with_reducible exact frR_rt | with_reducible exact frR_rd | with_reducible exact frR_ld | with_reducible refine frR_wr ?_ | with_reducible refine frR_sr ?_ | with_reducible exact frR_gd | with_reducible exact frR_gdZ | with_reducible refine frR_bn ?_ fun _ => ?_ | with_reducible refine frR_ite ?_ ?_ | omega
theorem fr_F_R_isOut {x1 : Int32} : frR (F_R_isOut x1) := by
  unfold F_R_isOut
  repeat' first | with_reducible exact frR_rt | with_reducible exact frR_rd | with_reducible exact frR_ld | with_reducible refine frR_wr ?_ | with_reducible refine frR_sr ?_ | with_reducible exact frR_gd | with_reducible exact frR_gdZ | with_reducible refine frR_bn ?_ fun _ => ?_ | with_reducible refine frR_ite ?_ ?_ | omega
theorem fr_F_R_isPerson {x1 : Int32} : frR (F_R_isPerson x1) := by
  unfold F_R_isPerson
  repeat' first | with_reducible exact frR_rt | with_reducible exact frR_rd | with_reducible exact frR_ld | with_reducible refine frR_wr ?_ | with_reducible refine frR_sr ?_ | with_reducible exact frR_gd | with_reducible exact frR_gdZ | with_reducible refine frR_bn ?_ fun _ => ?_ | with_reducible refine frR_ite ?_ ?_ | omega
theorem fr_F_R_isStreet {x1 : Int32} : frR (F_R_isStreet x1) := by
  unfold F_R_isStreet
  repeat' first | with_reducible exact frR_rt | with_reducible exact frR_rd | with_reducible exact frR_ld | with_reducible refine frR_wr ?_ | with_reducible refine frR_sr ?_ | with_reducible exact frR_gd | with_reducible exact frR_gdZ | with_reducible refine frR_bn ?_ fun _ => ?_ | with_reducible refine frR_ite ?_ ?_ | omega
theorem fr_F_R_isStruck {x1 : Int32} : frR (F_R_isStruck x1) := by
  unfold F_R_isStruck
  repeat' first | with_reducible exact frR_rt | with_reducible exact frR_rd | with_reducible exact frR_ld | with_reducible refine frR_wr ?_ | with_reducible refine frR_sr ?_ | with_reducible exact frR_gd | with_reducible exact frR_gdZ | with_reducible refine frR_bn ?_ fun _ => ?_ | with_reducible refine frR_ite ?_ ?_ | omega
theorem fr_F_R_canAct {x1 : Int32} {x2 : Int32} {x3 : Int32} : frR (F_R_canAct x1 x2 x3) := by
  unfold F_R_canAct
  repeat' first | with_reducible exact frR_rt | with_reducible exact frR_rd | with_reducible exact frR_ld | with_reducible refine frR_wr ?_ | with_reducible refine frR_sr ?_ | with_reducible exact frR_gd | with_reducible exact frR_gdZ | with_reducible exact fr_F_R_isAlias | with_reducible exact fr_F_R_isStruck | with_reducible exact fr_F_R_isStreet | with_reducible exact fr_F_R_isOut | with_reducible exact fr_F_R_isPerson | with_reducible refine frR_bn ?_ fun _ => ?_ | with_reducible refine frR_ite ?_ ?_ | omega
theorem fr_F_R_goesHome {x1 : Int32} : frR (F_R_goesHome x1) := by
  unfold F_R_goesHome
  repeat' first | with_reducible exact frR_rt | with_reducible exact frR_rd | with_reducible exact frR_ld | with_reducible refine frR_wr ?_ | with_reducible refine frR_sr ?_ | with_reducible exact frR_gd | with_reducible exact frR_gdZ | with_reducible refine frR_bn ?_ fun _ => ?_ | with_reducible refine frR_ite ?_ ?_ | omega
theorem fr_F_R_goesOut {x1 : Int32} {x2 : Int32} : frR (F_R_goesOut x1 x2) := by
  unfold F_R_goesOut
  repeat' first | with_reducible exact frR_rt | with_reducible exact frR_rd | with_reducible exact frR_ld | with_reducible refine frR_wr ?_ | with_reducible refine frR_sr ?_ | with_reducible exact frR_gd | with_reducible exact frR_gdZ | with_reducible refine frR_bn ?_ fun _ => ?_ | with_reducible refine frR_ite ?_ ?_ | omega
theorem fr_B_R_keepsAhead_21 {y : Int32} : frR (B_R_keepsAhead_21 y) := by
  unfold B_R_keepsAhead_21
  repeat' first | with_reducible exact frR_rt | with_reducible exact frR_rd | with_reducible exact frR_ld | with_reducible refine frR_wr ?_ | with_reducible refine frR_sr ?_ | with_reducible exact frR_gd | with_reducible exact frR_gdZ | with_reducible refine frR_bn ?_ fun _ => ?_ | with_reducible refine frR_ite ?_ ?_ | omega
theorem fr_B_R_keepsAhead_55 {y : Int32} : frR (B_R_keepsAhead_55 y) := by
  unfold B_R_keepsAhead_55
  repeat' first | with_reducible exact frR_rt | with_reducible exact frR_rd | with_reducible exact frR_ld | with_reducible refine frR_wr ?_ | with_reducible refine frR_sr ?_ | with_reducible exact frR_gd | with_reducible exact frR_gdZ | with_reducible refine frR_bn ?_ fun _ => ?_ | with_reducible refine frR_ite ?_ ?_ | omega
theorem fr_K_R_keepsAhead_55 {x1 : Int32} : frR (K_R_keepsAhead_55 x1) := by
  unfold K_R_keepsAhead_55
  repeat' first | with_reducible exact frR_rt | with_reducible exact frR_rd | with_reducible exact frR_ld | with_reducible refine frR_wr ?_ | with_reducible refine frR_sr ?_ | with_reducible exact frR_gd | with_reducible exact frR_gdZ | with_reducible exact fr_B_R_keepsAhead_55 | with_reducible refine frR_bn ?_ fun _ => ?_ | with_reducible refine frR_ite ?_ ?_ | with_reducible refine frR_lp fun _ => ?_ | omega
theorem fr_K_R_keepsAhead_53 : frR K_R_keepsAhead_53 := by
  unfold K_R_keepsAhead_53
  repeat' first | with_reducible exact frR_rt | with_reducible exact frR_rd | with_reducible exact frR_ld | with_reducible refine frR_wr ?_ | with_reducible refine frR_sr ?_ | with_reducible exact frR_gd | with_reducible exact frR_gdZ | with_reducible exact fr_K_R_keepsAhead_55 | with_reducible refine frR_bn ?_ fun _ => ?_ | with_reducible refine frR_ite ?_ ?_ | omega
theorem fr_K_R_keepsAhead_21 {x1 : Int32} : frR (K_R_keepsAhead_21 x1) := by
  unfold K_R_keepsAhead_21
  repeat' first | with_reducible exact frR_rt | with_reducible exact frR_rd | with_reducible exact frR_ld | with_reducible refine frR_wr ?_ | with_reducible refine frR_sr ?_ | with_reducible exact frR_gd | with_reducible exact frR_gdZ | with_reducible exact fr_B_R_keepsAhead_21 | with_reducible exact fr_K_R_keepsAhead_53 | with_reducible refine frR_bn ?_ fun _ => ?_ | with_reducible refine frR_ite ?_ ?_ | with_reducible refine frR_lp fun _ => ?_ | omega
theorem fr_F_R_keepsAhead : frR F_R_keepsAhead := by
  unfold F_R_keepsAhead
  repeat' first | with_reducible exact frR_rt | with_reducible exact frR_rd | with_reducible exact frR_ld | with_reducible refine frR_wr ?_ | with_reducible refine frR_sr ?_ | with_reducible exact frR_gd | with_reducible exact frR_gdZ | with_reducible exact fr_K_R_keepsAhead_21 | with_reducible exact fr_K_R_keepsAhead_53 | with_reducible refine frR_bn ?_ fun _ => ?_ | with_reducible refine frR_ite ?_ ?_ | omega
theorem fr_F_R_lesser {x1 : Int32} {x2 : Int32} : frR (F_R_lesser x1 x2) := by
  unfold F_R_lesser
  repeat' first | with_reducible exact frR_rt | with_reducible exact frR_rd | with_reducible exact frR_ld | with_reducible refine frR_wr ?_ | with_reducible refine frR_sr ?_ | with_reducible exact frR_gd | with_reducible exact frR_gdZ | with_reducible refine frR_bn ?_ fun _ => ?_ | with_reducible refine frR_ite ?_ ?_ | omega
theorem fr_F_R_writes {x1 : Int32} {x2 : Int32} {x3 : Int32} : frR (F_R_writes x1 x2 x3) := by
  unfold F_R_writes
  repeat' first | with_reducible exact frR_rt | with_reducible exact frR_rd | with_reducible exact frR_ld | with_reducible refine frR_wr ?_ | with_reducible refine frR_sr ?_ | with_reducible exact frR_gd | with_reducible exact frR_gdZ | with_reducible refine frR_bn ?_ fun _ => ?_ | with_reducible refine frR_ite ?_ ?_ | omega
theorem fr_K_R_act_41 {x1 : Int32} {x2 : Int32} : frR (K_R_act_41 x1 x2) := by
  unfold K_R_act_41
  repeat' first | with_reducible exact frR_rt | with_reducible exact frR_rd | with_reducible exact frR_ld | with_reducible refine frR_wr ?_ | with_reducible refine frR_sr ?_ | with_reducible exact frR_gd | with_reducible exact frR_gdZ | with_reducible exact fr_F_R_lesser | with_reducible exact fr_F_R_writes | with_reducible refine frR_bn ?_ fun _ => ?_ | with_reducible refine frR_ite ?_ ?_ | omega
theorem fr_F_R_act {x1 : Int32} {x2 : Int32} {x3 : Int32} : frR (F_R_act x1 x2 x3) := by
  unfold F_R_act
  repeat' first | with_reducible exact frR_rt | with_reducible exact frR_rd | with_reducible exact frR_ld | with_reducible refine frR_wr ?_ | with_reducible refine frR_sr ?_ | with_reducible exact frR_gd | with_reducible exact frR_gdZ | with_reducible exact fr_F_R_canAct | with_reducible exact fr_F_R_keepsAhead | with_reducible exact fr_F_R_goesOut | with_reducible exact fr_F_R_goesHome | with_reducible exact fr_K_R_act_41 | with_reducible refine frR_bn ?_ fun _ => ?_ | with_reducible refine frR_ite ?_ ?_ | omega
theorem fr_F_R_isIn {x1 : Int32} {x2 : Int32} {x3 : Int32} : frR (F_R_isIn x1 x2 x3) := by
  unfold F_R_isIn
  repeat' first | with_reducible exact frR_rt | with_reducible exact frR_rd | with_reducible exact frR_ld | with_reducible refine frR_wr ?_ | with_reducible refine frR_sr ?_ | with_reducible exact frR_gd | with_reducible exact frR_gdZ | with_reducible refine frR_bn ?_ fun _ => ?_ | with_reducible refine frR_ite ?_ ?_ | omega
theorem fr_F_R_alias {x1 : Int32} {x2 : Int32} {x3 : Int32} : frR (F_R_alias x1 x2 x3) := by
  unfold F_R_alias
  repeat' first | with_reducible exact frR_rt | with_reducible exact frR_rd | with_reducible exact frR_ld | with_reducible refine frR_wr ?_ | with_reducible refine frR_sr ?_ | with_reducible exact frR_gd | with_reducible exact frR_gdZ | with_reducible exact fr_F_R_isPerson | with_reducible exact fr_F_R_isIn | with_reducible exact fr_F_R_isStreet | with_reducible refine frR_bn ?_ fun _ => ?_ | with_reducible refine frR_ite ?_ ?_ | omega
theorem fr_F_R_bed {x1 : Int32} {x2 : Int32} : frR (F_R_bed x1 x2) := by
  unfold F_R_bed
  repeat' first | with_reducible exact frR_rt | with_reducible exact frR_rd | with_reducible exact frR_ld | with_reducible refine frR_wr ?_ | with_reducible refine frR_sr ?_ | with_reducible exact frR_gd | with_reducible exact frR_gdZ | with_reducible exact fr_F_R_isIn | with_reducible refine frR_bn ?_ fun _ => ?_ | with_reducible refine frR_ite ?_ ?_ | omega
theorem fr_F_R_doesLie {x1 : Int32} {x2 : Int32} : frR (F_R_doesLie x1 x2) := by
  unfold F_R_doesLie
  repeat' first | with_reducible exact frR_rt | with_reducible exact frR_rd | with_reducible exact frR_ld | with_reducible refine frR_wr ?_ | with_reducible refine frR_sr ?_ | with_reducible exact frR_gd | with_reducible exact frR_gdZ | with_reducible exact fr_F_R_isIn | with_reducible refine frR_bn ?_ fun _ => ?_ | with_reducible refine frR_ite ?_ ?_ | omega
theorem fr_F_R_has {x1 : Int32} {x2 : Int32} : frR (F_R_has x1 x2) := by
  unfold F_R_has
  repeat' first | with_reducible exact frR_rt | with_reducible exact frR_rd | with_reducible exact frR_ld | with_reducible refine frR_wr ?_ | with_reducible refine frR_sr ?_ | with_reducible exact frR_gd | with_reducible exact frR_gdZ | with_reducible refine frR_bn ?_ fun _ => ?_ | with_reducible refine frR_ite ?_ ?_ | omega
theorem fr_B_R_bedOf_20 {x1 : Int32} {x2 : Int32} {x3 : Int32} {y : Int32 × Int32} : frR (B_R_bedOf_20 x1 x2 x3 y) := by
  unfold B_R_bedOf_20
  repeat' first | with_reducible exact frR_rt | with_reducible exact frR_rd | with_reducible exact frR_ld | with_reducible refine frR_wr ?_ | with_reducible refine frR_sr ?_ | with_reducible exact frR_gd | with_reducible exact frR_gdZ | with_reducible exact fr_F_R_has | with_reducible exact fr_F_R_doesLie | with_reducible refine frR_bn ?_ fun _ => ?_ | with_reducible refine frR_ite ?_ ?_ | omega
theorem fr_K_R_bedOf_91 {x1 : Int32} {x2 : Int32} {x3 : Int32} {x4 : Int32} : frR (K_R_bedOf_91 x1 x2 x3 x4) := by
  unfold K_R_bedOf_91
  repeat' first | with_reducible exact frR_rt | with_reducible exact frR_rd | with_reducible exact frR_ld | with_reducible refine frR_wr ?_ | with_reducible refine frR_sr ?_ | with_reducible exact frR_gd | with_reducible exact frR_gdZ | with_reducible refine frR_bn ?_ fun _ => ?_ | with_reducible refine frR_ite ?_ ?_ | omega
theorem fr_K_R_bedOf_20 {x1 : Int32} {x2 : Int32} {x3 : Int32} {x4 : Int32} {x5 : Int32} : frR (K_R_bedOf_20 x1 x2 x3 x4 x5) := by
  unfold K_R_bedOf_20
  repeat' first | with_reducible exact frR_rt | with_reducible exact frR_rd | with_reducible exact frR_ld | with_reducible refine frR_wr ?_ | with_reducible refine frR_sr ?_ | with_reducible exact frR_gd | with_reducible exact frR_gdZ | with_reducible exact fr_B_R_bedOf_20 | with_reducible exact fr_K_R_bedOf_91 | with_reducible refine frR_bn ?_ fun _ => ?_ | with_reducible refine frR_ite ?_ ?_ | with_reducible refine frR_lp fun _ => ?_ | omega
end FRM4
