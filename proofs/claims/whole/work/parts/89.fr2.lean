/-! what is left alone (printed by wip/tools/gen_fr.py) -/
section FRM2
theorem fr_K_World_aliasesOf_5 {r0 : Nat} {x1 : Int32} {x2 : Int32} {x3 : Int32} {x4 : Int32} : frA (K_World_aliasesOf_5 r0 x1 x2 x3 x4) := by
  unfold K_World_aliasesOf_5
  repeat' first | with_reducible exact frA_rt | with_reducible exact frA_rd | with_reducible exact frA_ld | with_reducible refine frA_wr ?_ | with_reducible refine frA_sr ?_ | with_reducible exact frA_gd | with_reducible exact frA_gdZ | with_reducible exact fr_B_World_aliasesOf_5 | with_reducible refine frA_bn ?_ fun _ => ?_ | with_reducible refine frA_ite ?_ ?_ | with_reducible refine frA_lp fun _ => ?_ | omega
theorem fr_F_World_aliasesOf {r0 : Nat} {x1 : Int32} {x2 : Int32} : frA (F_World_aliasesOf r0 x1 x2) := by
  unfold F_World_aliasesOf
  repeat' first | with_reducible exact frA_rt | with_reducible exact frA_rd | with_reducible exact frA_ld | with_reducible refine frA_wr ?_ | with_reducible refine frA_sr ?_ | with_reducible exact frA_gd | with_reducible exact frA_gdZ | with_reducible exact fr_K_World_aliasesOf_5 | with_reducible refine frA_bn ?_ fun _ => ?_ | with_reducible refine frA_ite ?_ ?_ | omega
theorem fr_F_World_meetsItsOwn {r0 : Nat} {x1 : Int32} : frA (F_World_meetsItsOwn r0 x1) := by
  unfold F_World_meetsItsOwn
  repeat' first | with_reducible exact frA_rt | with_reducible exact frA_rd | with_reducible exact frA_ld | with_reducible refine frA_wr ?_ | with_reducible refine frA_sr ?_ | with_reducible exact frA_gd | with_reducible exact frA_gdZ | with_reducible exact fr_F_World_outIn | with_reducible exact fr_F_World_aliasesOf | with_reducible refine frA_bn ?_ fun _ => ?_ | with_reducible refine frA_ite ?_ ?_ | omega
theorem fr_B_Hours_beSeen_2 {r0 : Nat} {y : Int32} : frA (B_Hours_beSeen_2 r0 y) := by
  have hhr0 := hw_le r0
  unfold B_Hours_beSeen_2
  repeat' first | with_reducible exact frA_rt | with_reducible exact frA_rd | with_reducible exact frA_ld | with_reducible refine frA_wr ?_ | with_reducible refine frA_sr ?_ | with_reducible exact frA_gd | with_reducible exact frA_gdZ | with_reducible refine fr_F_Law_tells ?_ | with_reducible exact fr_F_Hours_isSeen | with_reducible exact fr_F_World_meetsItsOwn | with_reducible exact fr_F_Hours_note | with_reducible refine frA_bn ?_ fun _ => ?_ | with_reducible refine frA_ite ?_ ?_ | omega
theorem fr_K_Hours_beSeen_2 {r0 : Nat} {x1 : Int32} : frA (K_Hours_beSeen_2 r0 x1) := by
  unfold K_Hours_beSeen_2
  repeat' first | with_reducible exact frA_rt | with_reducible exact frA_rd | with_reducible exact frA_ld | with_reducible refine frA_wr ?_ | with_reducible refine frA_sr ?_ | with_reducible exact frA_gd | with_reducible exact frA_gdZ | with_reducible exact fr_B_Hours_beSeen_2 | with_reducible refine frA_bn ?_ fun _ => ?_ | with_reducible refine frA_ite ?_ ?_ | with_reducible refine frA_lp fun _ => ?_ | omega
theorem fr_F_Hours_beSeen {r0 : Nat} : frA (F_Hours_beSeen r0) := by
  unfold F_Hours_beSeen
  repeat' first | with_reducible exact frA_rt | with_reducible exact frA_rd | with_reducible exact frA_ld | with_reducible refine frA_wr ?_ | with_reducible refine frA_sr ?_ | with_reducible exact frA_gd | with_reducible exact frA_gdZ | with_reducible exact fr_K_Hours_beSeen_2 | with_reducible refine frA_bn ?_ fun _ => ?_ | with_reducible refine frA_ite ?_ ?_ | omega
theorem fr_F_World_charge {r0 : Nat} {x1 : Int32} {x2 : Int32} (hr0 : r0 + 3 < 207) : frA (F_World_charge r0 x1 x2) := by
  unfold F_World_charge
  repeat' first | with_reducible exact frA_rt | with_reducible exact frA_rd | with_reducible exact frA_ld | with_reducible refine frA_wr ?_ | with_reducible refine frA_sr ?_ | with_reducible exact frA_gd | with_reducible exact frA_gdZ | with_reducible refine frA_bn ?_ fun _ => ?_ | with_reducible refine frA_ite ?_ ?_ | omega
theorem fr_F_World_give {r0 : Nat} {x1 : Int32} {x2 : Int32} (hr0 : r0 + 3 < 207) : frA (F_World_give r0 x1 x2) := by
  unfold F_World_give
  repeat' first | with_reducible exact frA_rt | with_reducible exact frA_rd | with_reducible exact frA_ld | with_reducible refine frA_wr ?_ | with_reducible refine frA_sr ?_ | with_reducible exact frA_gd | with_reducible exact frA_gdZ | with_reducible refine frA_bn ?_ fun _ => ?_ | with_reducible refine frA_ite ?_ ?_ | omega
theorem fr_B_Hours_earn_13 {r0 : Nat} {y : Int32} : frA (B_Hours_earn_13 r0 y) := by
  have hhr0 := hw_le r0
  unfold B_Hours_earn_13
  repeat' first | with_reducible exact frA_rt | with_reducible exact frA_rd | with_reducible exact frA_ld | with_reducible refine frA_wr ?_ | with_reducible refine frA_sr ?_ | with_reducible exact frA_gd | with_reducible exact frA_gdZ | with_reducible refine fr_F_Law_tells ?_ | with_reducible refine fr_F_World_give ?_ | with_reducible refine fr_F_World_charge ?_ | with_reducible refine frA_bn ?_ fun _ => ?_ | with_reducible refine frA_ite ?_ ?_ | omega
theorem fr_K_Hours_earn_13 {r0 : Nat} {x2 : Int32} : frA (K_Hours_earn_13 r0 x2) := by
  unfold K_Hours_earn_13
  repeat' first | with_reducible exact frA_rt | with_reducible exact frA_rd | with_reducible exact frA_ld | with_reducible refine frA_wr ?_ | with_reducible refine frA_sr ?_ | with_reducible exact frA_gd | with_reducible exact frA_gdZ | with_reducible exact fr_B_Hours_earn_13 | with_reducible refine frA_bn ?_ fun _ => ?_ | with_reducible refine frA_ite ?_ ?_ | with_reducible refine frA_lp fun _ => ?_ | omega
theorem fr_F_Hours_earn {r0 : Nat} : frA (F_Hours_earn r0) := by
  unfold F_Hours_earn
  repeat' first | with_reducible exact frA_rt | with_reducible exact frA_rd | with_reducible exact frA_ld | with_reducible refine frA_wr ?_ | with_reducible refine frA_sr ?_ | with_reducible exact frA_gd | with_reducible exact frA_gdZ | with_reducible exact fr_K_Hours_earn_13 | with_reducible refine frA_bn ?_ fun _ => ?_ | with_reducible refine frA_ite ?_ ?_ | omega
theorem fr_K_Hours_keepLine_99 {r0 : Nat} {x1 : Int32} {x2 : Int32} : frA (K_Hours_keepLine_99 r0 x1 x2) := by
  have hhr0 := hw_le r0
  unfold K_Hours_keepLine_99
  repeat' first | with_reducible exact frA_rt | with_reducible exact frA_rd | with_reducible exact frA_ld | with_reducible refine frA_wr ?_ | with_reducible refine frA_sr ?_ | with_reducible exact frA_gd | with_reducible exact frA_gdZ | with_reducible exact fr_F_World_isAlias | with_reducible refine fr_F_World_lieDown ?_ | with_reducible refine frA_bn ?_ fun _ => ?_ | with_reducible refine frA_ite ?_ ?_ | omega
theorem fr_K_Hours_keepLine_70 {r0 : Nat} {x1 : Int32} {x2 : Int32} {x3 : Int32} : frA (K_Hours_keepLine_70 r0 x1 x2 x3) := by
  have hhr0 := hw_le r0
  unfold K_Hours_keepLine_70
  repeat' first | with_reducible exact frA_rt | with_reducible exact frA_rd | with_reducible exact frA_ld | with_reducible refine frA_wr ?_ | with_reducible refine frA_sr ?_ | with_reducible exact frA_gd | with_reducible exact frA_gdZ | with_reducible exact fr_F_A_within | with_reducible exact fr_K_Hours_keepLine_99 | with_reducible refine frA_bn ?_ fun _ => ?_ | with_reducible refine frA_ite ?_ ?_ | omega
theorem fr_K_Hours_keepLine_41 {r0 : Nat} {x1 : Int32} {x2 : Int32} {x3 : Int32} : frA (K_Hours_keepLine_41 r0 x1 x2 x3) := by
  have hhr0 := hw_le r0
  unfold K_Hours_keepLine_41
  repeat' first | with_reducible exact frA_rt | with_reducible exact frA_rd | with_reducible exact frA_ld | with_reducible refine frA_wr ?_ | with_reducible refine frA_sr ?_ | with_reducible exact frA_gd | with_reducible exact frA_gdZ | with_reducible exact fr_F_World_isPerson | with_reducible exact fr_K_Hours_keepLine_70 | with_reducible refine fr_F_World_give ?_ | with_reducible refine frA_bn ?_ fun _ => ?_ | with_reducible refine frA_ite ?_ ?_ | omega
theorem fr_F_Hours_keepLine {r0 : Nat} {x1 : Int32} {x2 : Int32} {x3 : Int32} : frA (F_Hours_keepLine r0 x1 x2 x3) := by
  have hhr0 := hw_le r0
  unfold F_Hours_keepLine
  repeat' first | with_reducible exact frA_rt | with_reducible exact frA_rd | with_reducible exact frA_ld | with_reducible refine frA_wr ?_ | with_reducible refine frA_sr ?_ | with_reducible exact frA_gd | with_reducible exact frA_gdZ | with_reducible exact fr_F_World_isAlias | with_reducible exact fr_K_Hours_keepLine_41 | with_reducible refine fr_F_World_walkOut ?_ | with_reducible refine frA_bn ?_ fun _ => ?_ | with_reducible refine frA_ite ?_ ?_ | omega
theorem fr_B_Hours_keepDiary_13 {r0 : Nat} {y : Int32} : frA (B_Hours_keepDiary_13 r0 y) := by
  have hhr0 := hw_le r0
  unfold B_Hours_keepDiary_13
  repeat' first | with_reducible exact frA_rt | with_reducible exact frA_rd | with_reducible exact frA_ld | with_reducible refine frA_wr ?_ | with_reducible refine frA_sr ?_ | with_reducible exact frA_gd | with_reducible exact frA_gdZ | with_reducible exact fr_F_Table_at | with_reducible exact fr_F_Hours_keepLine | with_reducible refine frA_bn ?_ fun _ => ?_ | with_reducible refine frA_ite ?_ ?_ | omega
theorem fr_K_Hours_keepDiary_13 {r0 : Nat} {x2 : Int32} : frA (K_Hours_keepDiary_13 r0 x2) := by
  unfold K_Hours_keepDiary_13
  repeat' first | with_reducible exact frA_rt | with_reducible exact frA_rd | with_reducible exact frA_ld | with_reducible refine frA_wr ?_ | with_reducible refine frA_sr ?_ | with_reducible exact frA_gd | with_reducible exact frA_gdZ | with_reducible exact fr_B_Hours_keepDiary_13 | with_reducible refine frA_bn ?_ fun _ => ?_ | with_reducible refine frA_ite ?_ ?_ | with_reducible refine frA_lp fun _ => ?_ | omega
theorem fr_F_Hours_keepDiary {r0 : Nat} : frA (F_Hours_keepDiary r0) := by
  unfold F_Hours_keepDiary
  repeat' first | with_reducible exact frA_rt | with_reducible exact frA_rd | with_reducible exact frA_ld | with_reducible refine frA_wr ?_ | with_reducible refine frA_sr ?_ | with_reducible exact frA_gd | with_reducible exact frA_gdZ | with_reducible exact fr_K_Hours_keepDiary_13 | with_reducible refine frA_bn ?_ fun _ => ?_ | with_reducible refine frA_ite ?_ ?_ | omega
theorem fr_K_Hours_goesHimself_44 {r0 : Nat} {x1 : Int32} {x2 : Int32} {x3 : Int32} : frA (K_Hours_goesHimself_44 r0 x1 x2 x3) := by
  have hhr0 := hw_le r0
  unfold K_Hours_goesHimself_44
  repeat' first | with_reducible exact frA_rt | with_reducible exact frA_rd | with_reducible exact frA_ld | with_reducible refine frA_wr ?_ | with_reducible refine frA_sr ?_ | with_reducible exact frA_gd | with_reducible exact frA_gdZ | with_reducible refine frA_bn ?_ fun _ => ?_ | with_reducible refine frA_ite ?_ ?_ | omega
theorem fr_B_Hours_goesHimself_4 {r0 : Nat} {x1 : Int32} {y : Int32 × Int32} : frA (B_Hours_goesHimself_4 r0 x1 y) := by
  have hhr0 := hw_le r0
  unfold B_Hours_goesHimself_4
  repeat' first | with_reducible exact frA_rt | with_reducible exact frA_rd | with_reducible exact frA_ld | with_reducible refine frA_wr ?_ | with_reducible refine frA_sr ?_ | with_reducible exact frA_gd | with_reducible exact frA_gdZ | with_reducible exact fr_K_Hours_goesHimself_44 | with_reducible refine frA_bn ?_ fun _ => ?_ | with_reducible refine frA_ite ?_ ?_ | omega
theorem fr_K_Hours_goesHimself_4 {r0 : Nat} {x1 : Int32} {x2 : Int32} {x3 : Int32} : frA (K_Hours_goesHimself_4 r0 x1 x2 x3) := by
  unfold K_Hours_goesHimself_4
  repeat' first | with_reducible exact frA_rt | with_reducible exact frA_rd | with_reducible exact frA_ld | with_reducible refine frA_wr ?_ | with_reducible refine frA_sr ?_ | with_reducible exact frA_gd | with_reducible exact frA_gdZ | with_reducible exact fr_B_Hours_goesHimself_4 | with_reducible refine frA_bn ?_ fun _ => ?_ | with_reducible refine frA_ite ?_ ?_ | with_reducible refine frA_lp fun _ => ?_ | omega
theorem fr_F_Hours_goesHimself {r0 : Nat} {x1 : Int32} : frA (F_Hours_goesHimself r0 x1) := by
  unfold F_Hours_goesHimself
  repeat' first | with_reducible exact frA_rt | with_reducible exact frA_rd | with_reducible exact frA_ld | with_reducible refine frA_wr ?_ | with_reducible refine frA_sr ?_ | with_reducible exact frA_gd | with_reducible exact frA_gdZ | with_reducible exact fr_K_Hours_goesHimself_4 | with_reducible refine frA_bn ?_ fun _ => ?_ | with_reducible refine frA_ite ?_ ?_ | omega
theorem fr_B_Hours_sendCousins_8 {r0 : Nat} {x1 : Int32} {x2 : Int32} {y : Int32} : frA (B_Hours_sendCousins_8 r0 x1 x2 y) := by
  have hhr0 := hw_le r0
  unfold B_Hours_sendCousins_8
  repeat' first | with_reducible exact frA_rt | with_reducible exact frA_rd | with_reducible exact frA_ld | with_reducible refine frA_wr ?_ | with_reducible refine frA_sr ?_ | with_reducible exact frA_gd | with_reducible exact frA_gdZ | with_reducible refine fr_F_World_charge ?_ | with_reducible exact fr_F_Hours_note | with_reducible refine frA_bn ?_ fun _ => ?_ | with_reducible refine frA_ite ?_ ?_ | omega
theorem fr_K_Hours_sendCousins_8 {r0 : Nat} {x1 : Int32} {x2 : Int32} {x3 : Int32} : frA (K_Hours_sendCousins_8 r0 x1 x2 x3) := by
  unfold K_Hours_sendCousins_8
  repeat' first | with_reducible exact frA_rt | with_reducible exact frA_rd | with_reducible exact frA_ld | with_reducible refine frA_wr ?_ | with_reducible refine frA_sr ?_ | with_reducible exact frA_gd | with_reducible exact frA_gdZ | with_reducible exact fr_B_Hours_sendCousins_8 | with_reducible refine frA_bn ?_ fun _ => ?_ | with_reducible refine frA_ite ?_ ?_ | with_reducible refine frA_lp fun _ => ?_ | omega
theorem fr_F_Hours_sendCousins {r0 : Nat} {x1 : Int32} : frA (F_Hours_sendCousins r0 x1) := by
  unfold F_Hours_sendCousins
  repeat' first | with_reducible exact frA_rt | with_reducible exact frA_rd | with_reducible exact frA_ld | with_reducible refine frA_wr ?_ | with_reducible refine frA_sr ?_ | with_reducible exact frA_gd | with_reducible exact frA_gdZ | with_reducible exact fr_F_Hours_goesHimself | with_reducible exact fr_K_Hours_sendCousins_8 | with_reducible refine frA_bn ?_ fun _ => ?_ | with_reducible refine frA_ite ?_ ?_ | omega
theorem fr_F_Texts_holds {r0 : Nat} {x1 : Int32} {x2 : Int32} : frA (F_Texts_holds r0 x1 x2) := by
  unfold F_Texts_holds
  repeat' first | with_reducible exact frA_rt | with_reducible exact frA_rd | with_reducible exact frA_ld | with_reducible refine frA_wr ?_ | with_reducible refine frA_sr ?_ | with_reducible exact frA_gd | with_reducible exact frA_gdZ | with_reducible exact fr_F_Table_at | with_reducible refine frA_bn ?_ fun _ => ?_ | with_reducible refine frA_ite ?_ ?_ | omega
theorem fr_B_Hours_shareOut_16 {r0 : Nat} {x1 : Int32} {y : Int32 × Int32} : frA (B_Hours_shareOut_16 r0 x1 y) := by
  have hhr0 := hw_le r0
  unfold B_Hours_shareOut_16
  repeat' first | with_reducible exact frA_rt | with_reducible exact frA_rd | with_reducible exact frA_ld | with_reducible refine frA_wr ?_ | with_reducible refine frA_sr ?_ | with_reducible exact frA_gd | with_reducible exact frA_gdZ | with_reducible exact fr_F_Table_at | with_reducible exact fr_F_Texts_holds | with_reducible refine fr_F_World_walkOut ?_ | with_reducible refine frA_bn ?_ fun _ => ?_ | with_reducible refine frA_ite ?_ ?_ | omega
theorem fr_K_Hours_shareOut_82 {r0 : Nat} {x1 : Int32} {x3 : Int32} : frA (K_Hours_shareOut_82 r0 x1 x3) := by
  have hhr0 := hw_le r0
  unfold K_Hours_shareOut_82
  repeat' first | with_reducible exact frA_rt | with_reducible exact frA_rd | with_reducible exact frA_ld | with_reducible refine frA_wr ?_ | with_reducible refine frA_sr ?_ | with_reducible exact frA_gd | with_reducible exact frA_gdZ | with_reducible refine fr_F_World_lieDown ?_ | with_reducible refine frA_bn ?_ fun _ => ?_ | with_reducible refine frA_ite ?_ ?_ | omega
theorem fr_K_Hours_shareOut_16 {r0 : Nat} {x1 : Int32} {x3 : Int32} {x4 : Int32} : frA (K_Hours_shareOut_16 r0 x1 x3 x4) := by
  unfold K_Hours_shareOut_16
  repeat' first | with_reducible exact frA_rt | with_reducible exact frA_rd | with_reducible exact frA_ld | with_reducible refine frA_wr ?_ | with_reducible refine frA_sr ?_ | with_reducible exact frA_gd | with_reducible exact frA_gdZ | with_reducible exact fr_B_Hours_shareOut_16 | with_reducible exact fr_K_Hours_shareOut_82 | with_reducible refine frA_bn ?_ fun _ => ?_ | with_reducible refine frA_ite ?_ ?_ | with_reducible refine frA_lp fun _ => ?_ | split | omega
theorem fr_F_Hours_shareOut {r0 : Nat} {x1 : Int32} : frA (F_Hours_shareOut r0 x1) := by
  unfold F_Hours_shareOut
  repeat' first | with_reducible exact frA_rt | with_reducible exact frA_rd | with_reducible exact frA_ld | with_reducible refine frA_wr ?_ | with_reducible refine frA_sr ?_ | with_reducible exact frA_gd | with_reducible exact frA_gdZ | with_reducible exact fr_K_Hours_shareOut_16 | with_reducible refine frA_bn ?_ fun _ => ?_ | with_reducible refine frA_ite ?_ ?_ | omega
theorem fr_B_Hours_share_2 {r0 : Nat} {y : Int32} : frA (B_Hours_share_2 r0 y) := by
  have hhr0 := hw_le r0
  unfold B_Hours_share_2
  repeat' first | with_reducible exact frA_rt | with_reducible exact frA_rd | with_reducible exact frA_ld | with_reducible refine frA_wr ?_ | with_reducible refine frA_sr ?_ | with_reducible exact frA_gd | with_reducible exact frA_gdZ | with_reducible exact fr_F_Hours_shareOut | with_reducible refine frA_bn ?_ fun _ => ?_ | with_reducible refine frA_ite ?_ ?_ | omega
theorem fr_K_Hours_share_2 {r0 : Nat} {x1 : Int32} : frA (K_Hours_share_2 r0 x1) := by
  unfold K_Hours_share_2
  repeat' first | with_reducible exact frA_rt | with_reducible exact frA_rd | with_reducible exact frA_ld | with_reducible refine frA_wr ?_ | with_reducible refine frA_sr ?_ | with_reducible exact frA_gd | with_reducible exact frA_gdZ | with_reducible exact fr_B_Hours_share_2 | with_reducible refine frA_bn ?_ fun _ => ?_ | with_reducible refine frA_ite ?_ ?_ | with_reducible refine frA_lp fun _ => ?_ | omega
theorem fr_F_Hours_share {r0 : Nat} : frA (F_Hours_share r0) := by
  unfold F_Hours_share
  repeat' first | with_reducible exact frA_rt | with_reducible exact frA_rd | with_reducible exact frA_ld | with_reducible refine frA_wr ?_ | with_reducible refine frA_sr ?_ | with_reducible exact frA_gd | with_reducible exact frA_gdZ | with_reducible exact fr_K_Hours_share_2 | with_reducible refine frA_bn ?_ fun _ => ?_ | with_reducible refine frA_ite ?_ ?_ | omega
theorem fr_B_Hours_strikeOff_2 {r0 : Nat} {y : Int32} : frA (B_Hours_strikeOff_2 r0 y) := by
  have hhr0 := hw_le r0
  unfold B_Hours_strikeOff_2
  repeat' first | with_reducible exact frA_rt | with_reducible exact frA_rd | with_reducible exact frA_ld | with_reducible refine frA_wr ?_ | with_reducible refine frA_sr ?_ | with_reducible exact frA_gd | with_reducible exact frA_gdZ | with_reducible refine fr_F_World_lieDown ?_ | with_reducible exact fr_F_Hours_note | with_reducible refine frA_bn ?_ fun _ => ?_ | with_reducible refine frA_ite ?_ ?_ | omega
theorem fr_K_Hours_strikeOff_2 {r0 : Nat} {x1 : Int32} : frA (K_Hours_strikeOff_2 r0 x1) := by
  unfold K_Hours_strikeOff_2
  repeat' first | with_reducible exact frA_rt | with_reducible exact frA_rd | with_reducible exact frA_ld | with_reducible refine frA_wr ?_ | with_reducible refine frA_sr ?_ | with_reducible exact frA_gd | with_reducible exact frA_gdZ | with_reducible exact fr_B_Hours_strikeOff_2 | with_reducible refine frA_bn ?_ fun _ => ?_ | with_reducible refine frA_ite ?_ ?_ | with_reducible refine frA_lp fun _ => ?_ | omega
theorem fr_F_Hours_strikeOff {r0 : Nat} : frA (F_Hours_strikeOff r0) := by
  unfold F_Hours_strikeOff
  repeat' first | with_reducible exact frA_rt | with_reducible exact frA_rd | with_reducible exact frA_ld | with_reducible refine frA_wr ?_ | with_reducible refine frA_sr ?_ | with_reducible exact frA_gd | with_reducible exact frA_gdZ | with_reducible exact fr_K_Hours_strikeOff_2 | with_reducible refine frA_bn ?_ fun _ => ?_ | with_reducible refine frA_ite ?_ ?_ | omega
theorem fr_B_Hours_turn_49 {r0 : Nat} {y : Int32} : frA (B_Hours_turn_49 r0 y) := by
  have hhr0 := hw_le r0
  unfold B_Hours_turn_49
  repeat' first | with_reducible exact frA_rt | with_reducible exact frA_rd | with_reducible exact frA_ld | with_reducible refine frA_wr ?_ | with_reducible refine frA_sr ?_ | with_reducible exact frA_gd | with_reducible exact frA_gdZ | with_reducible refine frA_bn ?_ fun _ => ?_ | with_reducible refine frA_ite ?_ ?_ | omega
theorem fr_K_Hours_turn_49 {r0 : Nat} {x1 : Int32} : frA (K_Hours_turn_49 r0 x1) := by
  unfold K_Hours_turn_49
  repeat' first | with_reducible exact frA_rt | with_reducible exact frA_rd | with_reducible exact frA_ld | with_reducible refine frA_wr ?_ | with_reducible refine frA_sr ?_ | with_reducible exact frA_gd | with_reducible exact frA_gdZ | with_reducible exact fr_B_Hours_turn_49 | with_reducible refine frA_bn ?_ fun _ => ?_ | with_reducible refine frA_ite ?_ ?_ | with_reducible refine frA_lp fun _ => ?_ | omega
theorem fr_F_Hours_turn {r0 : Nat} : frA (F_Hours_turn r0) := by
  have hhr0 := hw_le r0
  unfold F_Hours_turn
  repeat' first | with_reducible exact frA_rt | with_reducible exact frA_rd | with_reducible exact frA_ld | with_reducible refine frA_wr ?_ | with_reducible refine frA_sr ?_ | with_reducible exact frA_gd | with_reducible exact frA_gdZ | with_reducible exact fr_K_Hours_turn_49 | with_reducible refine frA_bn ?_ fun _ => ?_ | with_reducible refine frA_ite ?_ ?_ | omega
theorem fr_B_Hours_pass_10 {r0 : Nat} {y : Int32} : frA (B_Hours_pass_10 r0 y) := by
  have hhr0 := hw_le r0
  unfold B_Hours_pass_10
  repeat' first | with_reducible exact frA_rt | with_reducible exact frA_rd | with_reducible exact frA_ld | with_reducible refine frA_wr ?_ | with_reducible refine frA_sr ?_ | with_reducible exact frA_gd | with_reducible exact frA_gdZ | with_reducible exact fr_F_Hours_sendCousins | with_reducible exact fr_F_Hours_beSeen | with_reducible exact fr_F_Hours_earn | with_reducible exact fr_F_Hours_strikeOff | with_reducible exact fr_F_Hours_turn | with_reducible refine frA_bn ?_ fun _ => ?_ | with_reducible refine frA_ite ?_ ?_ | omega
theorem fr_K_Hours_pass_10 {r0 : Nat} {x1 : Int32} : frA (K_Hours_pass_10 r0 x1) := by
  unfold K_Hours_pass_10
  repeat' first | with_reducible exact frA_rt | with_reducible exact frA_rd | with_reducible exact frA_ld | with_reducible refine frA_wr ?_ | with_reducible refine frA_sr ?_ | with_reducible exact frA_gd | with_reducible exact frA_gdZ | with_reducible exact fr_B_Hours_pass_10 | with_reducible refine frA_bn ?_ fun _ => ?_ | with_reducible refine frA_ite ?_ ?_ | with_reducible refine frA_lp fun _ => ?_ | omega
theorem fr_F_Hours_pass {r0 : Nat} : frA (F_Hours_pass r0) := by
  unfold F_Hours_pass
  repeat' first | with_reducible exact frA_rt | with_reducible exact frA_rd | with_reducible exact frA_ld | with_reducible refine frA_wr ?_ | with_reducible refine frA_sr ?_ | with_reducible exact frA_gd | with_reducible exact frA_gdZ | with_reducible exact fr_F_Hours_keepDiary | with_reducible exact fr_F_Hours_share | with_reducible exact fr_K_Hours_pass_10 | with_reducible refine frA_bn ?_ fun _ => ?_ | with_reducible refine frA_ite ?_ ?_ | omega
theorem fr_B_World_purses_4 {r0 : Nat} {y : Int32 × Int32} : frA (B_World_purses_4 r0 y) := by
  unfold B_World_purses_4
  repeat' first | with_reducible exact frA_rt | with_reducible exact frA_rd | with_reducible exact frA_ld | with_reducible refine frA_wr ?_ | with_reducible refine frA_sr ?_ | with_reducible exact frA_gd | with_reducible exact frA_gdZ | with_reducible refine frA_bn ?_ fun _ => ?_ | with_reducible refine frA_ite ?_ ?_ | omega
theorem fr_K_World_purses_4 {r0 : Nat} {x1 : Int32} {x2 : Int32} : frA (K_World_purses_4 r0 x1 x2) := by
  unfold K_World_purses_4
  repeat' first | with_reducible exact frA_rt | with_reducible exact frA_rd | with_reducible exact frA_ld | with_reducible refine frA_wr ?_ | with_reducible refine frA_sr ?_ | with_reducible exact frA_gd | with_reducible exact frA_gdZ | with_reducible exact fr_B_World_purses_4 | with_reducible refine frA_bn ?_ fun _ => ?_ | with_reducible refine frA_ite ?_ ?_ | with_reducible refine frA_lp fun _ => ?_ | omega
theorem fr_F_World_purses {r0 : Nat} : frA (F_World_purses r0) := by
  unfold F_World_purses
  repeat' first | with_reducible exact frA_rt | with_reducible exact frA_rd | with_reducible exact frA_ld | with_reducible refine frA_wr ?_ | with_reducible refine frA_sr ?_ | with_reducible exact frA_gd | with_reducible exact frA_gdZ | with_reducible exact fr_K_World_purses_4 | with_reducible refine frA_bn ?_ fun _ => ?_ | with_reducible refine frA_ite ?_ ?_ | omega
theorem fr_B_A_goes_37 {x1 : Int32} {x2 : Int32} {y : Int32} : frA (B_A_goes_37 x1 x2 y) := by
  unfold B_A_goes_37
  repeat' first | with_reducible exact frA_rt | with_reducible exact frA_rd | with_reducible exact frA_ld | with_reducible refine frA_wr ?_ | with_reducible refine frA_sr ?_ | with_reducible exact frA_gd | with_reducible exact frA_gdZ | with_reducible exact fr_F_Hours_pass | with_reducible refine frA_bn ?_ fun _ => ?_ | with_reducible refine frA_ite ?_ ?_ | omega
theorem fr_K_A_goes_55 {x2 : Int32} : frA (K_A_goes_55 x2) := by
  unfold K_A_goes_55
  repeat' first | with_reducible exact frA_rt | with_reducible exact frA_rd | with_reducible exact frA_ld | with_reducible refine frA_wr ?_ | with_reducible refine frA_sr ?_ | with_reducible exact frA_gd | with_reducible exact frA_gdZ | with_reducible exact fr_F_World_purses | with_reducible refine frA_bn ?_ fun _ => ?_ | with_reducible refine frA_ite ?_ ?_ | omega
theorem fr_K_A_goes_37 {x1 : Int32} {x2 : Int32} {x3 : Int32} : frA (K_A_goes_37 x1 x2 x3) := by
  unfold K_A_goes_37
  repeat' first | with_reducible exact frA_rt | with_reducible exact frA_rd | with_reducible exact frA_ld | with_reducible refine frA_wr ?_ | with_reducible refine frA_sr ?_ | with_reducible exact frA_gd | with_reducible exact frA_gdZ | with_reducible exact fr_B_A_goes_37 | with_reducible exact fr_K_A_goes_55 | with_reducible refine frA_bn ?_ fun _ => ?_ | with_reducible refine frA_ite ?_ ?_ | with_reducible refine frA_lp fun _ => ?_ | omega
theorem fr_F_A_goes {x1 : Int32} {x2 : Int32} : frA (F_A_goes x1 x2) := by
  unfold F_A_goes
  repeat' first | with_reducible exact frA_rt | with_reducible exact frA_rd | with_reducible exact frA_ld | with_reducible refine frA_wr ?_ | with_reducible refine frA_sr ?_ | with_reducible exact frA_gd | with_reducible exact frA_gdZ | with_reducible exact fr_F_A_within | with_reducible refine fr_F_World_become ?_ | with_reducible exact fr_K_A_goes_37 | with_reducible refine frA_bn ?_ fun _ => ?_ | with_reducible refine frA_ite ?_ ?_ | omega
theorem fr_F_A_hoop {x1 : Int32} {x2 : Int32} {x3 : Int32} : frA (F_A_hoop x1 x2 x3) := by
  unfold F_A_hoop
  repeat' first | with_reducible exact frA_rt | with_reducible exact frA_rd | with_reducible exact frA_ld | with_reducible refine frA_wr ?_ | with_reducible refine frA_sr ?_ | with_reducible exact frA_gd | with_reducible exact frA_gdZ | with_reducible exact fr_F_A_within | with_reducible exact fr_F_Riddles_commonDivisor | with_reducible refine frA_bn ?_ fun _ => ?_ | with_reducible refine frA_ite ?_ ?_ | with_reducible refine frA_dvI ?_ | omega
theorem fr_B_A_hours_48 {x1 : Int32} {x3 : Int32} {y : Int32} : frA (B_A_hours_48 x1 x3 y) := by
  unfold B_A_hours_48
  repeat' first | with_reducible exact frA_rt | with_reducible exact frA_rd | with_reducible exact frA_ld | with_reducible refine frA_wr ?_ | with_reducible refine frA_sr ?_ | with_reducible exact frA_gd | with_reducible exact frA_gdZ | with_reducible exact fr_F_A_keepPast | with_reducible exact fr_F_Hours_pass | with_reducible refine frA_bn ?_ fun _ => ?_ | with_reducible refine frA_ite ?_ ?_ | omega
theorem fr_K_A_hours_48 {x1 : Int32} {x3 : Int32} {x4 : Int32} : frA (K_A_hours_48 x1 x3 x4) := by
  unfold K_A_hours_48
  repeat' first | with_reducible exact frA_rt | with_reducible exact frA_rd | with_reducible exact frA_ld | with_reducible refine frA_wr ?_ | with_reducible refine frA_sr ?_ | with_reducible exact frA_gd | with_reducible exact frA_gdZ | with_reducible exact fr_B_A_hours_48 | with_reducible refine frA_bn ?_ fun _ => ?_ | with_reducible refine frA_ite ?_ ?_ | with_reducible refine frA_lp fun _ => ?_ | omega
theorem fr_F_A_hours {x1 : Int32} : frA (F_A_hours x1) := by
  unfold F_A_hours
  repeat' first | with_reducible exact frA_rt | with_reducible exact frA_rd | with_reducible exact frA_ld | with_reducible refine frA_wr ?_ | with_reducible refine frA_sr ?_ | with_reducible exact frA_gd | with_reducible exact frA_gdZ | with_reducible exact fr_F_A_within | with_reducible exact fr_K_A_hours_48 | with_reducible refine frA_bn ?_ fun _ => ?_ | with_reducible refine frA_ite ?_ ?_ | with_reducible refine frA_dvI ?_ | omega
theorem fr_F_Book_become {r0 : Nat} {r1 : Nat} (hr0 : r0 + 1 < 207) : frA (F_Book_become r0 r1) := by
  unfold F_Book_become
  repeat' first | with_reducible exact frA_rt | with_reducible exact frA_rd | with_reducible exact frA_ld | with_reducible refine frA_wr ?_ | with_reducible refine frA_sr ?_ | with_reducible exact frA_gd | with_reducible exact frA_gdZ | with_reducible refine frA_cp ?_ | with_reducible refine frA_bn ?_ fun _ => ?_ | with_reducible refine frA_ite ?_ ?_ | omega
theorem fr_F_Table_become {r0 : Nat} {r1 : Nat} (hr0 : r0 + 1 < 207) : frA (F_Table_become r0 r1) := by
  unfold F_Table_become
  repeat' first | with_reducible exact frA_rt | with_reducible exact frA_rd | with_reducible exact frA_ld | with_reducible refine frA_wr ?_ | with_reducible refine frA_sr ?_ | with_reducible exact frA_gd | with_reducible exact frA_gdZ | with_reducible refine frA_cp ?_ | with_reducible refine frA_bn ?_ fun _ => ?_ | with_reducible refine frA_ite ?_ ?_ | omega
theorem fr_F_Law_become {r0 : Nat} {r1 : Nat} (hr0 : r0 + 3 < 207) : frA (F_Law_become r0 r1) := by
  unfold F_Law_become
  repeat' first | with_reducible exact frA_rt | with_reducible exact frA_rd | with_reducible exact frA_ld | with_reducible refine frA_wr ?_ | with_reducible refine frA_sr ?_ | with_reducible exact frA_gd | with_reducible exact frA_gdZ | with_reducible refine frA_cp ?_ | with_reducible refine fr_F_Table_become ?_ | with_reducible refine frA_bn ?_ fun _ => ?_ | with_reducible refine frA_ite ?_ ?_ | omega
theorem fr_F_Texts_table {r0 : Nat} {x1 : Int32} : frA (F_Texts_table r0 x1) := by
  unfold F_Texts_table
  repeat' first | with_reducible exact frA_rt | with_reducible exact frA_rd | with_reducible exact frA_ld | with_reducible refine frA_wr ?_ | with_reducible refine frA_sr ?_ | with_reducible exact frA_gd | with_reducible exact frA_gdZ | with_reducible refine frA_bn ?_ fun _ => ?_ | with_reducible refine frA_ite ?_ ?_ | omega
theorem fr_F_Texts_take {r0 : Nat} {x1 : Int32} {r2 : Nat} (hr0 : r0 + 11 < 207) : frA (F_Texts_take r0 x1 r2) := by
  unfold F_Texts_take F_Texts_table
  simp only [bn_ite, bn_rt]
  repeat' first | with_reducible exact frA_rt | with_reducible exact frA_rd | with_reducible refine fr_F_Law_become ?_ | with_reducible refine fr_F_Table_become ?_ | with_reducible refine frA_bn ?_ fun _ => ?_ | with_reducible refine frA_ite ?_ ?_ | omega
theorem fr_B_Texts_become_2 {r0 : Nat} {r1 : Nat} {y : Int32} (hr0 : r0 + 11 < 207) : frA (B_Texts_become_2 r0 r1 y) := by
  unfold B_Texts_become_2
  repeat' first | with_reducible exact frA_rt | with_reducible exact frA_rd | with_reducible exact frA_ld | with_reducible refine frA_wr ?_ | with_reducible refine frA_sr ?_ | with_reducible exact frA_gd | with_reducible exact frA_gdZ | with_reducible refine fr_F_Texts_take ?_ | with_reducible refine frA_bn ?_ fun _ => ?_ | with_reducible refine frA_ite ?_ ?_ | omega
theorem fr_K_Texts_become_2 {r0 : Nat} {r1 : Nat} {x2 : Int32} (hr0 : r0 + 11 < 207) : frA (K_Texts_become_2 r0 r1 x2) := by
  unfold K_Texts_become_2
  repeat' first | with_reducible exact frA_rt | with_reducible exact frA_rd | with_reducible exact frA_ld | with_reducible refine frA_wr ?_ | with_reducible refine frA_sr ?_ | with_reducible exact frA_gd | with_reducible exact frA_gdZ | with_reducible refine fr_B_Texts_become_2 ?_ | with_reducible refine frA_bn ?_ fun _ => ?_ | with_reducible refine frA_ite ?_ ?_ | with_reducible refine frA_lp fun _ => ?_ | omega
theorem fr_F_Texts_become {r0 : Nat} {r1 : Nat} (hr0 : r0 + 11 < 207) : frA (F_Texts_become r0 r1) := by
  unfold F_Texts_become
  repeat' first | with_reducible exact frA_rt | with_reducible exact frA_rd | with_reducible exact frA_ld | with_reducible refine frA_wr ?_ | with_reducible refine frA_sr ?_ | with_reducible exact frA_gd | with_reducible exact frA_gdZ | with_reducible refine fr_K_Texts_become_2 ?_ | with_reducible refine frA_bn ?_ fun _ => ?_ | with_reducible refine frA_ite ?_ ?_ | omega
theorem fr_F_Stock_become {r0 : Nat} {r1 : Nat} (hr0 : r0 + 45 < 207) : frA (F_Stock_become r0 r1) := by
  unfold F_Stock_become
  repeat' first | with_reducible exact frA_rt | with_reducible exact frA_rd | with_reducible exact frA_ld | with_reducible refine frA_wr ?_ | with_reducible refine frA_sr ?_ | with_reducible exact frA_gd | with_reducible exact frA_gdZ | with_reducible refine fr_F_World_become ?_ | with_reducible refine fr_F_Book_become ?_ | with_reducible refine fr_F_Texts_become ?_ | with_reducible refine fr_F_Table_become ?_ | with_reducible refine frA_bn ?_ fun _ => ?_ | with_reducible refine frA_ite ?_ ?_ | omega
theorem fr_F_A_image {x1 : Int32} : frA (F_A_image x1) := by
  unfold F_A_image
  repeat' first | with_reducible exact frA_rt | with_reducible exact frA_rd | with_reducible exact frA_ld | with_reducible refine frA_wr ?_ | with_reducible refine frA_sr ?_ | with_reducible exact frA_gd | with_reducible exact frA_gdZ | with_reducible refine frA_wrZ ?_ | with_reducible refine fr_F_Stock_become ?_ | with_reducible exact fr_F_A_forget | with_reducible refine frA_bn ?_ fun _ => ?_ | with_reducible refine frA_ite ?_ ?_ | omega
theorem fr_B_A_keeps_32 {x1 : Int32} {y : Int32} : frA (B_A_keeps_32 x1 y) := by
  unfold B_A_keeps_32
  repeat' first | with_reducible exact frA_rt | with_reducible exact frA_rd | with_reducible exact frA_ld | with_reducible refine frA_wr ?_ | with_reducible refine frA_sr ?_ | with_reducible exact frA_gd | with_reducible exact frA_gdZ | with_reducible exact fr_F_Hours_pass | with_reducible refine frA_bn ?_ fun _ => ?_ | with_reducible refine frA_ite ?_ ?_ | omega
theorem fr_K_A_keeps_32 {x1 : Int32} {x2 : Int32} : frA (K_A_keeps_32 x1 x2) := by
  unfold K_A_keeps_32
  repeat' first | with_reducible exact frA_rt | with_reducible exact frA_rd | with_reducible exact frA_ld | with_reducible refine frA_wr ?_ | with_reducible refine frA_sr ?_ | with_reducible exact frA_gd | with_reducible exact frA_gdZ | with_reducible exact fr_B_A_keeps_32 | with_reducible refine frA_bn ?_ fun _ => ?_ | with_reducible refine frA_ite ?_ ?_ | with_reducible refine frA_lp fun _ => ?_ | omega
theorem fr_F_A_keeps {x1 : Int32} : frA (F_A_keeps x1) := by
  unfold F_A_keeps
  repeat' first | with_reducible exact frA_rt | with_reducible exact frA_rd | with_reducible exact frA_ld | with_reducible refine frA_wr ?_ | with_reducible refine frA_sr ?_ | with_reducible exact frA_gd | with_reducible exact frA_gdZ | with_reducible exact fr_F_World_isAlias | with_reducible refine fr_F_World_become ?_ | with_reducible exact fr_K_A_keeps_32 | with_reducible refine frA_bn ?_ fun _ => ?_ | with_reducible refine frA_ite ?_ ?_ | omega
theorem fr_B_Port_besideAny_4 {x1 : Int32} {y : Int32 × Int32} : frA (B_Port_besideAny_4 x1 y) := by
  unfold B_Port_besideAny_4
  repeat' first | with_reducible exact frA_rt | with_reducible exact frA_rd | with_reducible exact frA_ld | with_reducible refine frA_wr ?_ | with_reducible refine frA_sr ?_ | with_reducible exact frA_gd | with_reducible exact frA_gdZ | with_reducible refine frA_bn ?_ fun _ => ?_ | with_reducible refine frA_ite ?_ ?_ | omega
theorem fr_K_Port_besideAny_4 {x1 : Int32} {x2 : Int32} {x3 : Int32} : frA (K_Port_besideAny_4 x1 x2 x3) := by
  unfold K_Port_besideAny_4
  repeat' first | with_reducible exact frA_rt | with_reducible exact frA_rd | with_reducible exact frA_ld | with_reducible refine frA_wr ?_ | with_reducible refine frA_sr ?_ | with_reducible exact frA_gd | with_reducible exact frA_gdZ | with_reducible exact fr_B_Port_besideAny_4 | with_reducible refine frA_bn ?_ fun _ => ?_ | with_reducible refine frA_ite ?_ ?_ | with_reducible refine frA_lp fun _ => ?_ | omega
theorem fr_F_Port_besideAny {x1 : Int32} : frA (F_Port_besideAny x1) := by
  unfold F_Port_besideAny
  repeat' first | with_reducible exact frA_rt | with_reducible exact frA_rd | with_reducible exact frA_ld | with_reducible refine frA_wr ?_ | with_reducible refine frA_sr ?_ | with_reducible exact frA_gd | with_reducible exact frA_gdZ | with_reducible exact fr_K_Port_besideAny_4 | with_reducible refine frA_bn ?_ fun _ => ?_ | with_reducible refine frA_ite ?_ ?_ | omega
theorem fr_B_Port_drawMap_21 {y : Int32} : frA (B_Port_drawMap_21 y) := by
  unfold B_Port_drawMap_21
  repeat' first | with_reducible exact frA_rt | with_reducible exact frA_rd | with_reducible exact frA_ld | with_reducible refine frA_wr ?_ | with_reducible refine frA_sr ?_ | with_reducible exact frA_gd | with_reducible exact frA_gdZ | with_reducible exact fr_F_Table_at | with_reducible exact fr_F_A_within | with_reducible refine frA_bn ?_ fun _ => ?_ | with_reducible refine frA_ite ?_ ?_ | omega
theorem fr_K_Port_drawMap_21 {x2 : Int32} : frA (K_Port_drawMap_21 x2) := by
  unfold K_Port_drawMap_21
  repeat' first | with_reducible exact frA_rt | with_reducible exact frA_rd | with_reducible exact frA_ld | with_reducible refine frA_wr ?_ | with_reducible refine frA_sr ?_ | with_reducible exact frA_gd | with_reducible exact frA_gdZ | with_reducible exact fr_B_Port_drawMap_21 | with_reducible refine frA_bn ?_ fun _ => ?_ | with_reducible refine frA_ite ?_ ?_ | with_reducible refine frA_lp fun _ => ?_ | omega
theorem fr_F_Port_drawMap : frA F_Port_drawMap := by
  unfold F_Port_drawMap
  repeat' first | with_reducible exact frA_rt | with_reducible exact frA_rd | with_reducible exact frA_ld | with_reducible refine frA_wr ?_ | with_reducible refine frA_sr ?_ | with_reducible exact frA_gd | with_reducible exact frA_gdZ | with_reducible refine fr_F_Arrays_fill ?_ | with_reducible exact fr_K_Port_drawMap_21 | with_reducible refine frA_bn ?_ fun _ => ?_ | with_reducible refine frA_ite ?_ ?_ | omega
theorem fr_B_Port_watched_10 {y : Int32 × Int32} : frA (B_Port_watched_10 y) := by
  unfold B_Port_watched_10
  repeat' first | with_reducible exact frA_rt | with_reducible exact frA_rd | with_reducible exact frA_ld | with_reducible refine frA_wr ?_ | with_reducible refine frA_sr ?_ | with_reducible exact frA_gd | with_reducible exact frA_gdZ | with_reducible exact fr_F_Integer_bitCount | with_reducible exact fr_F_Port_besideAny | with_reducible refine frA_bn ?_ fun _ => ?_ | with_reducible refine frA_ite ?_ ?_ | omega
theorem fr_K_Port_watched_10 {x1 : Int32} {x2 : Int32} : frA (K_Port_watched_10 x1 x2) := by
  unfold K_Port_watched_10
  repeat' first | with_reducible exact frA_rt | with_reducible exact frA_rd | with_reducible exact frA_ld | with_reducible refine frA_wr ?_ | with_reducible refine frA_sr ?_ | with_reducible exact frA_gd | with_reducible exact frA_gdZ | with_reducible exact fr_B_Port_watched_10 | with_reducible refine frA_bn ?_ fun _ => ?_ | with_reducible refine frA_ite ?_ ?_ | with_reducible refine frA_lp fun _ => ?_ | omega
theorem fr_F_Port_watched : frA F_Port_watched := by
  unfold F_Port_watched
  repeat' first | with_reducible exact frA_rt | with_reducible exact frA_rd | with_reducible exact frA_ld | with_reducible refine frA_wr ?_ | with_reducible refine frA_sr ?_ | with_reducible exact frA_gd | with_reducible exact frA_gdZ | with_reducible exact fr_F_Port_drawMap | with_reducible exact fr_K_Port_watched_10 | with_reducible refine frA_bn ?_ fun _ => ?_ | with_reducible refine frA_ite ?_ ?_ | omega
theorem fr_B_Texts_busiest_20 {r0 : Nat} {x1 : Int32} {x2 : Int32} {x3 : Int32} {x4 : Int32} {y : Int32 × Int32} : frA (B_Texts_busiest_20 r0 x1 x2 x3 x4 y) := by
  unfold B_Texts_busiest_20
  repeat' first | with_reducible exact frA_rt | with_reducible exact frA_rd | with_reducible exact frA_ld | with_reducible refine frA_wr ?_ | with_reducible refine frA_sr ?_ | with_reducible exact frA_gd | with_reducible exact frA_gdZ | with_reducible exact fr_F_Texts_holds | with_reducible refine frA_bn ?_ fun _ => ?_ | with_reducible refine frA_ite ?_ ?_ | omega
theorem fr_K_Texts_busiest_59 {r0 : Nat} {x1 : Int32} {x2 : Int32} {x3 : Int32} {x4 : Int32} {x5 : Int32} : frA (K_Texts_busiest_59 r0 x1 x2 x3 x4 x5) := by
  unfold K_Texts_busiest_59
  repeat' first | with_reducible exact frA_rt | with_reducible exact frA_rd | with_reducible exact frA_ld | with_reducible refine frA_wr ?_ | with_reducible refine frA_sr ?_ | with_reducible exact frA_gd | with_reducible exact frA_gdZ | with_reducible refine frA_bn ?_ fun _ => ?_ | with_reducible refine frA_ite ?_ ?_ | omega
theorem fr_K_Texts_busiest_20 {r0 : Nat} {x1 : Int32} {x2 : Int32} {x3 : Int32} {x4 : Int32} {x5 : Int32} {x6 : Int32} : frA (K_Texts_busiest_20 r0 x1 x2 x3 x4 x5 x6) := by
  unfold K_Texts_busiest_20
  repeat' first | with_reducible exact frA_rt | with_reducible exact frA_rd | with_reducible exact frA_ld | with_reducible refine frA_wr ?_ | with_reducible refine frA_sr ?_ | with_reducible exact frA_gd | with_reducible exact frA_gdZ | with_reducible exact fr_B_Texts_busiest_20 | with_reducible exact fr_K_Texts_busiest_59 | with_reducible refine frA_bn ?_ fun _ => ?_ | with_reducible refine frA_ite ?_ ?_ | with_reducible refine frA_lp fun _ => ?_ | omega
theorem fr_B_Texts_busiest_7 {r0 : Nat} {x1 : Int32} {y : Int32 × Int32 × Int32} : frA (B_Texts_busiest_7 r0 x1 y) := by
  unfold B_Texts_busiest_7
  repeat' first | with_reducible exact frA_rt | with_reducible exact frA_rd | with_reducible exact frA_ld | with_reducible refine frA_wr ?_ | with_reducible refine frA_sr ?_ | with_reducible exact frA_gd | with_reducible exact frA_gdZ | with_reducible exact fr_K_Texts_busiest_20 | with_reducible refine frA_bn ?_ fun _ => ?_ | with_reducible refine frA_ite ?_ ?_ | omega
theorem fr_K_Texts_busiest_77 {x1 : Int32} {x2 : Int32} {x3 : Int32} : frA (K_Texts_busiest_77 x1 x2 x3) := by
  unfold K_Texts_busiest_77
  repeat' first | with_reducible exact frA_rt | with_reducible exact frA_rd | with_reducible exact frA_ld | with_reducible refine frA_wr ?_ | with_reducible refine frA_sr ?_ | with_reducible exact frA_gd | with_reducible exact frA_gdZ | with_reducible refine frA_bn ?_ fun _ => ?_ | with_reducible refine frA_ite ?_ ?_ | omega
theorem fr_K_Texts_busiest_7 {r0 : Nat} {x1 : Int32} {x2 : Int32} {x3 : Int32} {x4 : Int32} : frA (K_Texts_busiest_7 r0 x1 x2 x3 x4) := by
  unfold K_Texts_busiest_7
  repeat' first | with_reducible exact frA_rt | with_reducible exact frA_rd | with_reducible exact frA_ld | with_reducible refine frA_wr ?_ | with_reducible refine frA_sr ?_ | with_reducible exact frA_gd | with_reducible exact frA_gdZ | with_reducible exact fr_B_Texts_busiest_7 | with_reducible exact fr_K_Texts_busiest_77 | with_reducible refine frA_bn ?_ fun _ => ?_ | with_reducible refine frA_ite ?_ ?_ | with_reducible refine frA_lp fun _ => ?_ | omega
theorem fr_F_Texts_busiest {r0 : Nat} {x1 : Int32} : frA (F_Texts_busiest r0 x1) := by
  unfold F_Texts_busiest
  repeat' first | with_reducible exact frA_rt | with_reducible exact frA_rd | with_reducible exact frA_ld | with_reducible refine frA_wr ?_ | with_reducible refine frA_sr ?_ | with_reducible exact frA_gd | with_reducible exact frA_gdZ | with_reducible exact fr_K_Texts_busiest_7 | with_reducible refine frA_bn ?_ fun _ => ?_ | with_reducible refine frA_ite ?_ ?_ | omega
theorem fr_F_A_least {x1 : Int32} : frA (F_A_least x1) := by
  unfold F_A_least
  repeat' first | with_reducible exact frA_rt | with_reducible exact frA_rd | with_reducible exact frA_ld | with_reducible refine frA_wr ?_ | with_reducible refine frA_sr ?_ | with_reducible exact frA_gd | with_reducible exact frA_gdZ | with_reducible exact fr_F_Texts_busiest | with_reducible exact fr_F_Port_watched | with_reducible exact fr_F_Integer_bitCount | with_reducible refine frA_bn ?_ fun _ => ?_ | with_reducible refine frA_ite ?_ ?_ | omega
theorem fr_F_A_letter {x1 : Int32} {x2 : Int32} : frA (F_A_letter x1 x2) := by
  unfold F_A_letter
  repeat' first | with_reducible exact frA_rt | with_reducible exact frA_rd | with_reducible exact frA_ld | with_reducible refine frA_wr ?_ | with_reducible refine frA_sr ?_ | with_reducible exact frA_gd | with_reducible exact frA_gdZ | with_reducible exact fr_F_A_within | with_reducible refine fr_F_Table_wipe ?_ | with_reducible refine fr_F_Table_put ?_ | with_reducible refine frA_bn ?_ fun _ => ?_ | with_reducible refine frA_ite ?_ ?_ | omega
theorem fr_K_A_loan_53 {x1 : Int32} {x2 : Int32} {x3 : Int32} : frA (K_A_loan_53 x1 x2 x3) := by
  unfold K_A_loan_53
  repeat' first | with_reducible exact frA_rt | with_reducible exact frA_rd | with_reducible exact frA_ld | with_reducible refine frA_wr ?_ | with_reducible refine frA_sr ?_ | with_reducible exact frA_gd | with_reducible exact frA_gdZ | with_reducible refine fr_F_Table_put ?_ | with_reducible refine frA_bn ?_ fun _ => ?_ | with_reducible refine frA_ite ?_ ?_ | omega
theorem fr_F_A_loan {x1 : Int32} {x2 : Int32} {x3 : Int32} : frA (F_A_loan x1 x2 x3) := by
  unfold F_A_loan
  repeat' first | with_reducible exact frA_rt | with_reducible exact frA_rd | with_reducible exact frA_ld | with_reducible refine frA_wr ?_ | with_reducible refine frA_sr ?_ | with_reducible exact frA_gd | with_reducible exact frA_gdZ | with_reducible refine fr_F_Table_wipe ?_ | with_reducible exact fr_F_A_within | with_reducible exact fr_K_A_loan_53 | with_reducible refine fr_F_Table_put ?_ | with_reducible refine frA_bn ?_ fun _ => ?_ | with_reducible refine frA_ite ?_ ?_ | omega
theorem fr_B_World_struckOnes_4 {r0 : Nat} {y : Int32 × Int32} : frA (B_World_struckOnes_4 r0 y) := by
  unfold B_World_struckOnes_4
  repeat' first | with_reducible exact frA_rt | with_reducible exact frA_rd | with_reducible exact frA_ld | with_reducible refine frA_wr ?_ | with_reducible refine frA_sr ?_ | with_reducible exact frA_gd | with_reducible exact frA_gdZ | with_reducible refine frA_bn ?_ fun _ => ?_ | with_reducible refine frA_ite ?_ ?_ | omega
theorem fr_K_World_struckOnes_4 {r0 : Nat} {x1 : Int32} {x2 : Int32} : frA (K_World_struckOnes_4 r0 x1 x2) := by
  unfold K_World_struckOnes_4
  repeat' first | with_reducible exact frA_rt | with_reducible exact frA_rd | with_reducible exact frA_ld | with_reducible refine frA_wr ?_ | with_reducible refine frA_sr ?_ | with_reducible exact frA_gd | with_reducible exact frA_gdZ | with_reducible exact fr_B_World_struckOnes_4 | with_reducible refine frA_bn ?_ fun _ => ?_ | with_reducible refine frA_ite ?_ ?_ | with_reducible refine frA_lp fun _ => ?_ | omega
theorem fr_F_World_struckOnes {r0 : Nat} : frA (F_World_struckOnes r0) := by
  unfold F_World_struckOnes
  repeat' first | with_reducible exact frA_rt | with_reducible exact frA_rd | with_reducible exact frA_ld | with_reducible refine frA_wr ?_ | with_reducible refine frA_sr ?_ | with_reducible exact frA_gd | with_reducible exact frA_gdZ | with_reducible exact fr_K_World_struckOnes_4 | with_reducible refine frA_bn ?_ fun _ => ?_ | with_reducible refine frA_ite ?_ ?_ | omega
theorem fr_F_A_look {x1 : Int32} : frA (F_A_look x1) := by
  unfold F_A_look
  repeat' first | with_reducible exact frA_rt | with_reducible exact frA_rd | with_reducible exact frA_ld | with_reducible refine frA_wr ?_ | with_reducible refine frA_sr ?_ | with_reducible exact frA_gd | with_reducible exact frA_gdZ | with_reducible exact fr_F_World_struckOnes | with_reducible refine frA_bn ?_ fun _ => ?_ | with_reducible refine frA_ite ?_ ?_ | omega
theorem fr_B_Riddles_choices_4 {x0 : Int32} {x1 : Int32} {y : Int32 × Int32} : frA (B_Riddles_choices_4 x0 x1 y) := by
  unfold B_Riddles_choices_4
  repeat' first | with_reducible exact frA_rt | with_reducible exact frA_rd | with_reducible exact frA_ld | with_reducible refine frA_wr ?_ | with_reducible refine frA_sr ?_ | with_reducible exact frA_gd | with_reducible exact frA_gdZ | with_reducible refine frA_bn ?_ fun _ => ?_ | with_reducible refine frA_ite ?_ ?_ | with_reducible refine frA_dvI ?_ | omega
theorem fr_K_Riddles_choices_4 {x0 : Int32} {x1 : Int32} {x2 : Int32} {x3 : Int32} : frA (K_Riddles_choices_4 x0 x1 x2 x3) := by
  unfold K_Riddles_choices_4
  repeat' first | with_reducible exact frA_rt | with_reducible exact frA_rd | with_reducible exact frA_ld | with_reducible refine frA_wr ?_ | with_reducible refine frA_sr ?_ | with_reducible exact frA_gd | with_reducible exact frA_gdZ | with_reducible exact fr_B_Riddles_choices_4 | with_reducible refine frA_bn ?_ fun _ => ?_ | with_reducible refine frA_ite ?_ ?_ | with_reducible refine frA_lp fun _ => ?_ | omega
theorem fr_F_Riddles_choices {x0 : Int32} {x1 : Int32} : frA (F_Riddles_choices x0 x1) := by
  unfold F_Riddles_choices
  repeat' first | with_reducible exact frA_rt | with_reducible exact frA_rd | with_reducible exact frA_ld | with_reducible refine frA_wr ?_ | with_reducible refine frA_sr ?_ | with_reducible exact frA_gd | with_reducible exact frA_gdZ | with_reducible exact fr_K_Riddles_choices_4 | with_reducible refine frA_bn ?_ fun _ => ?_ | with_reducible refine frA_ite ?_ ?_ | omega
theorem fr_B_Riddles_rows_10 {x1 : Int32} {y : Int32} : frA (B_Riddles_rows_10 x1 y) := by
  unfold B_Riddles_rows_10
  repeat' first | with_reducible exact frA_rt | with_reducible exact frA_rd | with_reducible exact frA_ld | with_reducible refine frA_wr ?_ | with_reducible refine frA_sr ?_ | with_reducible exact frA_gd | with_reducible exact frA_gdZ | with_reducible exact fr_F_Table_at | with_reducible exact fr_F_A_within | with_reducible refine frA_bn ?_ fun _ => ?_ | with_reducible refine frA_ite ?_ ?_ | omega
theorem fr_B_Riddles_rows_95 {x1 : Int32} {x2 : Int32} {x3 : Int32} {y : Int32} : frA (B_Riddles_rows_95 x1 x2 x3 y) := by
  unfold B_Riddles_rows_95
  repeat' first | with_reducible exact frA_rt | with_reducible exact frA_rd | with_reducible exact frA_ld | with_reducible refine frA_wr ?_ | with_reducible refine frA_sr ?_ | with_reducible exact frA_gd | with_reducible exact frA_gdZ | with_reducible exact fr_F_Riddles_choices | with_reducible refine frA_bn ?_ fun _ => ?_ | with_reducible refine frA_ite ?_ ?_ | omega
theorem fr_K_Riddles_rows_143 {x1 : Int32} {x2 : Int32} {x3 : Int32} : frA (K_Riddles_rows_143 x1 x2 x3) := by
  unfold K_Riddles_rows_143
  repeat' first | with_reducible exact frA_rt | with_reducible exact frA_rd | with_reducible exact frA_ld | with_reducible refine frA_wr ?_ | with_reducible refine frA_sr ?_ | with_reducible exact frA_gd | with_reducible exact frA_gdZ | with_reducible refine frA_bn ?_ fun _ => ?_ | with_reducible refine frA_ite ?_ ?_ | omega
theorem fr_K_Riddles_rows_95 {x1 : Int32} {x2 : Int32} {x3 : Int32} {x4 : Int32} : frA (K_Riddles_rows_95 x1 x2 x3 x4) := by
  unfold K_Riddles_rows_95
  repeat' first | with_reducible exact frA_rt | with_reducible exact frA_rd | with_reducible exact frA_ld | with_reducible refine frA_wr ?_ | with_reducible refine frA_sr ?_ | with_reducible exact frA_gd | with_reducible exact frA_gdZ | with_reducible exact fr_B_Riddles_rows_95 | with_reducible exact fr_K_Riddles_rows_143 | with_reducible refine frA_bn ?_ fun _ => ?_ | with_reducible refine frA_ite ?_ ?_ | with_reducible refine frA_lp fun _ => ?_ | omega
theorem fr_B_Riddles_rows_88 {x1 : Int32} {x2 : Int32} {y : Int32} : frA (B_Riddles_rows_88 x1 x2 y) := by
  unfold B_Riddles_rows_88
  repeat' first | with_reducible exact frA_rt | with_reducible exact frA_rd | with_reducible exact frA_ld | with_reducible refine frA_wr ?_ | with_reducible refine frA_sr ?_ | with_reducible exact frA_gd | with_reducible exact frA_gdZ | with_reducible exact fr_K_Riddles_rows_95 | with_reducible refine frA_bn ?_ fun _ => ?_ | with_reducible refine frA_ite ?_ ?_ | omega
theorem fr_K_Riddles_rows_149 {x1 : Int32} {x2 : Int32} : frA (K_Riddles_rows_149 x1 x2) := by
  unfold K_Riddles_rows_149
  repeat' first | with_reducible exact frA_rt | with_reducible exact frA_rd | with_reducible exact frA_ld | with_reducible refine frA_wr ?_ | with_reducible refine frA_sr ?_ | with_reducible exact frA_gd | with_reducible exact frA_gdZ | with_reducible refine frA_bn ?_ fun _ => ?_ | with_reducible refine frA_ite ?_ ?_ | omega
theorem fr_K_Riddles_rows_88 {x1 : Int32} {x2 : Int32} {x3 : Int32} : frA (K_Riddles_rows_88 x1 x2 x3) := by
  unfold K_Riddles_rows_88
  repeat' first | with_reducible exact frA_rt | with_reducible exact frA_rd | with_reducible exact frA_ld | with_reducible refine frA_wr ?_ | with_reducible refine frA_sr ?_ | with_reducible exact frA_gd | with_reducible exact frA_gdZ | with_reducible exact fr_B_Riddles_rows_88 | with_reducible exact fr_K_Riddles_rows_149 | with_reducible refine frA_bn ?_ fun _ => ?_ | with_reducible refine frA_ite ?_ ?_ | with_reducible refine frA_lp fun _ => ?_ | omega
end FRM2
