/-! what is left alone (printed by wip/tools/gen_fr.py) -/
section FRM9
theorem fr_F_R_takesLaw {x1 : Int32} : frR (F_R_takesLaw x1) := by
  unfold F_R_takesLaw
  repeat' first | with_reducible exact frR_rt | with_reducible exact frR_rd | with_reducible exact frR_ld | with_reducible refine frR_wr ?_ | with_reducible refine frR_sr ?_ | with_reducible exact frR_gd | with_reducible exact frR_gdZ | with_reducible exact fr_K_R_takesLaw_2 | with_reducible refine frR_bn ?_ fun _ => ?_ | with_reducible refine frR_ite ?_ ?_ | omega
theorem fr_B_R_takesOther_7 {x2 : Int32} {y : Int32} : frR (B_R_takesOther_7 x2 y) := by
  unfold B_R_takesOther_7
  repeat' first | with_reducible exact frR_rt | with_reducible exact frR_rd | with_reducible exact frR_ld | with_reducible refine frR_wr ?_ | with_reducible refine frR_sr ?_ | with_reducible exact frR_gd | with_reducible exact frR_gdZ | with_reducible refine frR_bn ?_ fun _ => ?_ | with_reducible refine frR_ite ?_ ?_ | omega
theorem fr_K_R_takesOther_7 {x2 : Int32} {x3 : Int32} : frR (K_R_takesOther_7 x2 x3) := by
  unfold K_R_takesOther_7
  repeat' first | with_reducible exact frR_rt | with_reducible exact frR_rd | with_reducible exact frR_ld | with_reducible refine frR_wr ?_ | with_reducible refine frR_sr ?_ | with_reducible exact frR_gd | with_reducible exact frR_gdZ | with_reducible exact fr_B_R_takesOther_7 | with_reducible refine frR_bn ?_ fun _ => ?_ | with_reducible refine frR_ite ?_ ?_ | with_reducible refine frR_lp fun _ => ?_ | omega
theorem fr_B_R_takesOther_47 {x2 : Int32} {y : Int32} : frR (B_R_takesOther_47 x2 y) := by
  unfold B_R_takesOther_47
  repeat' first | with_reducible exact frR_rt | with_reducible exact frR_rd | with_reducible exact frR_ld | with_reducible refine frR_wr ?_ | with_reducible refine frR_sr ?_ | with_reducible exact frR_gd | with_reducible exact frR_gdZ | with_reducible refine frR_bn ?_ fun _ => ?_ | with_reducible refine frR_ite ?_ ?_ | omega
theorem fr_K_R_takesOther_47 {x2 : Int32} {x3 : Int32} : frR (K_R_takesOther_47 x2 x3) := by
  unfold K_R_takesOther_47
  repeat' first | with_reducible exact frR_rt | with_reducible exact frR_rd | with_reducible exact frR_ld | with_reducible refine frR_wr ?_ | with_reducible refine frR_sr ?_ | with_reducible exact frR_gd | with_reducible exact frR_gdZ | with_reducible exact fr_B_R_takesOther_47 | with_reducible refine frR_bn ?_ fun _ => ?_ | with_reducible refine frR_ite ?_ ?_ | with_reducible refine frR_lp fun _ => ?_ | omega
theorem fr_B_R_takesOther_85 {x2 : Int32} {y : Int32} : frR (B_R_takesOther_85 x2 y) := by
  unfold B_R_takesOther_85
  repeat' first | with_reducible exact frR_rt | with_reducible exact frR_rd | with_reducible exact frR_ld | with_reducible refine frR_wr ?_ | with_reducible refine frR_sr ?_ | with_reducible exact frR_gd | with_reducible exact frR_gdZ | with_reducible refine frR_bn ?_ fun _ => ?_ | with_reducible refine frR_ite ?_ ?_ | omega
theorem fr_K_R_takesOther_85 {x2 : Int32} {x3 : Int32} : frR (K_R_takesOther_85 x2 x3) := by
  unfold K_R_takesOther_85
  repeat' first | with_reducible exact frR_rt | with_reducible exact frR_rd | with_reducible exact frR_ld | with_reducible refine frR_wr ?_ | with_reducible refine frR_sr ?_ | with_reducible exact frR_gd | with_reducible exact frR_gdZ | with_reducible exact fr_B_R_takesOther_85 | with_reducible refine frR_bn ?_ fun _ => ?_ | with_reducible refine frR_ite ?_ ?_ | with_reducible refine frR_lp fun _ => ?_ | omega
theorem fr_F_R_takesOther {x1 : Int32} {x2 : Int32} : frR (F_R_takesOther x1 x2) := by
  unfold F_R_takesOther
  repeat' first | with_reducible exact frR_rt | with_reducible exact frR_rd | with_reducible exact frR_ld | with_reducible refine frR_wr ?_ | with_reducible refine frR_sr ?_ | with_reducible exact frR_gd | with_reducible exact frR_gdZ | with_reducible exact fr_K_R_takesOther_7 | with_reducible exact fr_K_R_takesOther_47 | with_reducible exact fr_K_R_takesOther_85 | with_reducible refine frR_bn ?_ fun _ => ?_ | with_reducible refine frR_ite ?_ ?_ | omega
theorem fr_K_R_text_69 {x1 : Int32} {x2 : Int32} : frR (K_R_text_69 x1 x2) := by
  unfold K_R_text_69
  repeat' first | with_reducible exact frR_rt | with_reducible exact frR_rd | with_reducible exact frR_ld | with_reducible refine frR_wr ?_ | with_reducible refine frR_sr ?_ | with_reducible exact frR_gd | with_reducible exact frR_gdZ | with_reducible exact fr_F_R_takesLaw | with_reducible exact fr_F_R_takesOther | with_reducible refine frR_bn ?_ fun _ => ?_ | with_reducible refine frR_ite ?_ ?_ | omega
theorem fr_F_R_text {x1 : Int32} : frR (F_R_text x1) := by
  unfold F_R_text
  repeat' first | with_reducible exact frR_rt | with_reducible exact frR_rd | with_reducible exact frR_ld | with_reducible refine frR_wr ?_ | with_reducible refine frR_sr ?_ | with_reducible exact frR_gd | with_reducible exact frR_gdZ | with_reducible exact fr_F_R_isIn | with_reducible exact fr_K_R_text_69 | with_reducible exact fr_F_R_readsText | with_reducible refine frR_bn ?_ fun _ => ?_ | with_reducible refine frR_ite ?_ ?_ | omega
theorem fr_B_R_undo_26 {y : Int32} : frR (B_R_undo_26 y) := by
  unfold B_R_undo_26
  repeat' first | with_reducible exact frR_rt | with_reducible exact frR_rd | with_reducible exact frR_ld | with_reducible refine frR_wr ?_ | with_reducible refine frR_sr ?_ | with_reducible exact frR_gd | with_reducible exact frR_gdZ | with_reducible refine frR_bn ?_ fun _ => ?_ | with_reducible refine frR_ite ?_ ?_ | omega
theorem fr_K_R_undo_26 {x1 : Int32} : frR (K_R_undo_26 x1) := by
  unfold K_R_undo_26
  repeat' first | with_reducible exact frR_rt | with_reducible exact frR_rd | with_reducible exact frR_ld | with_reducible refine frR_wr ?_ | with_reducible refine frR_sr ?_ | with_reducible exact frR_gd | with_reducible exact frR_gdZ | with_reducible exact fr_B_R_undo_26 | with_reducible refine frR_bn ?_ fun _ => ?_ | with_reducible refine frR_ite ?_ ?_ | with_reducible refine frR_lp fun _ => ?_ | omega
theorem fr_F_R_undo : frR F_R_undo := by
  unfold F_R_undo
  repeat' first | with_reducible exact frR_rt | with_reducible exact frR_rd | with_reducible exact frR_ld | with_reducible refine frR_wr ?_ | with_reducible refine frR_sr ?_ | with_reducible exact frR_gd | with_reducible exact frR_gdZ | with_reducible exact fr_K_R_undo_26 | with_reducible refine frR_bn ?_ fun _ => ?_ | with_reducible refine frR_ite ?_ ?_ | omega
theorem fr_F_R_vote {x1 : Int32} : frR (F_R_vote x1) := by
  unfold F_R_vote
  repeat' first | with_reducible exact frR_rt | with_reducible exact frR_rd | with_reducible exact frR_ld | with_reducible refine frR_wr ?_ | with_reducible refine frR_sr ?_ | with_reducible exact frR_gd | with_reducible exact frR_gdZ | with_reducible exact fr_F_R_isIn | with_reducible refine frR_bn ?_ fun _ => ?_ | with_reducible refine frR_ite ?_ ?_ | omega
theorem fr_B_R_aliasesOf_5 {x1 : Int32} {x2 : Int32} {y : Int32 × Int32} : frR (B_R_aliasesOf_5 x1 x2 y) := by
  unfold B_R_aliasesOf_5
  repeat' first | with_reducible exact frR_rt | with_reducible exact frR_rd | with_reducible exact frR_ld | with_reducible refine frR_wr ?_ | with_reducible refine frR_sr ?_ | with_reducible exact frR_gd | with_reducible exact frR_gdZ | with_reducible exact fr_F_R_isOut | with_reducible refine frR_bn ?_ fun _ => ?_ | with_reducible refine frR_ite ?_ ?_ | omega
theorem fr_K_R_aliasesOf_5 {x1 : Int32} {x2 : Int32} {x3 : Int32} {x4 : Int32} : frR (K_R_aliasesOf_5 x1 x2 x3 x4) := by
  unfold K_R_aliasesOf_5
  repeat' first | with_reducible exact frR_rt | with_reducible exact frR_rd | with_reducible exact frR_ld | with_reducible refine frR_wr ?_ | with_reducible refine frR_sr ?_ | with_reducible exact frR_gd | with_reducible exact frR_gdZ | with_reducible exact fr_B_R_aliasesOf_5 | with_reducible refine frR_bn ?_ fun _ => ?_ | with_reducible refine frR_ite ?_ ?_ | with_reducible refine frR_lp fun _ => ?_ | omega
theorem fr_F_R_aliasesOf {x1 : Int32} {x2 : Int32} : frR (F_R_aliasesOf x1 x2) := by
  unfold F_R_aliasesOf
  repeat' first | with_reducible exact frR_rt | with_reducible exact frR_rd | with_reducible exact frR_ld | with_reducible refine frR_wr ?_ | with_reducible refine frR_sr ?_ | with_reducible exact frR_gd | with_reducible exact frR_gdZ | with_reducible exact fr_K_R_aliasesOf_5 | with_reducible refine frR_bn ?_ fun _ => ?_ | with_reducible refine frR_ite ?_ ?_ | omega
theorem fr_F_R_who {x1 : Int32} {x2 : Int32} : frR (F_R_who x1 x2) := by
  unfold F_R_who
  repeat' first | with_reducible exact frR_rt | with_reducible exact frR_rd | with_reducible exact frR_ld | with_reducible refine frR_wr ?_ | with_reducible refine frR_sr ?_ | with_reducible exact frR_gd | with_reducible exact frR_gdZ | with_reducible exact fr_F_R_isPerson | with_reducible exact fr_F_R_isIn | with_reducible exact fr_F_R_aliasesOf | with_reducible refine frR_bn ?_ fun _ => ?_ | with_reducible refine frR_ite ?_ ?_ | omega
end FRM9
