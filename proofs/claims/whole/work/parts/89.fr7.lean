/-! what is left alone (printed by wip/tools/gen_fr.py) -/
section FRM7
theorem fr_K_R_named_59 {x1 : Int32} {x2 : Int32} {x3 : Int32} {x4 : Int32} : frR (K_R_named_59 x1 x2 x3 x4) := by
  unfold K_R_named_59
  repeat' first | with_reducible exact frR_rt | with_reducible exact frR_rd | with_reducible exact frR_ld | with_reducible refine frR_wr ?_ | with_reducible refine frR_sr ?_ | with_reducible exact frR_gd | with_reducible exact frR_gdZ | with_reducible exact fr_B_R_named_59 | with_reducible exact fr_K_R_named_89 | with_reducible refine frR_bn ?_ fun _ => ?_ | with_reducible refine frR_ite ?_ ?_ | with_reducible refine frR_lp fun _ => ?_ | omega
theorem fr_B_R_named_48 {x1 : Int32} {y : Int32} : frR (B_R_named_48 x1 y) := by
  unfold B_R_named_48
  repeat' first | with_reducible exact frR_rt | with_reducible exact frR_rd | with_reducible exact frR_ld | with_reducible refine frR_wr ?_ | with_reducible refine frR_sr ?_ | with_reducible exact frR_gd | with_reducible exact frR_gdZ | with_reducible exact fr_K_R_named_59 | with_reducible refine frR_bn ?_ fun _ => ?_ | with_reducible refine frR_ite ?_ ?_ | omega
theorem fr_K_R_named_48 {x1 : Int32} {x2 : Int32} : frR (K_R_named_48 x1 x2) := by
  unfold K_R_named_48
  repeat' first | with_reducible exact frR_rt | with_reducible exact frR_rd | with_reducible exact frR_ld | with_reducible refine frR_wr ?_ | with_reducible refine frR_sr ?_ | with_reducible exact frR_gd | with_reducible exact frR_gdZ | with_reducible exact fr_B_R_named_48 | with_reducible refine frR_bn ?_ fun _ => ?_ | with_reducible refine frR_ite ?_ ?_ | with_reducible refine frR_lp fun _ => ?_ | omega
theorem fr_K_R_named_46 {x1 : Int32} : frR (K_R_named_46 x1) := by
  unfold K_R_named_46
  repeat' first | with_reducible exact frR_rt | with_reducible exact frR_rd | with_reducible exact frR_ld | with_reducible refine frR_wr ?_ | with_reducible refine frR_sr ?_ | with_reducible exact frR_gd | with_reducible exact frR_gdZ | with_reducible exact fr_K_R_named_48 | with_reducible refine frR_bn ?_ fun _ => ?_ | with_reducible refine frR_ite ?_ ?_ | omega
theorem fr_K_R_named_19 {x1 : Int32} {x2 : Int32} : frR (K_R_named_19 x1 x2) := by
  unfold K_R_named_19
  repeat' first | with_reducible exact frR_rt | with_reducible exact frR_rd | with_reducible exact frR_ld | with_reducible refine frR_wr ?_ | with_reducible refine frR_sr ?_ | with_reducible exact frR_gd | with_reducible exact frR_gdZ | with_reducible exact fr_B_R_named_19 | with_reducible exact fr_K_R_named_46 | with_reducible refine frR_bn ?_ fun _ => ?_ | with_reducible refine frR_ite ?_ ?_ | with_reducible refine frR_lp fun _ => ?_ | omega
theorem fr_F_R_named {x1 : Int32} : frR (F_R_named x1) := by
  unfold F_R_named
  repeat' first | with_reducible exact frR_rt | with_reducible exact frR_rd | with_reducible exact frR_ld | with_reducible refine frR_wr ?_ | with_reducible refine frR_sr ?_ | with_reducible exact frR_gd | with_reducible exact frR_gdZ | with_reducible exact fr_F_R_isIn | with_reducible exact fr_K_R_named_19 | with_reducible refine frR_bn ?_ fun _ => ?_ | with_reducible refine frR_ite ?_ ?_ | omega
theorem fr_B_R_groupOf_15 {x3 : Int32} {y : Int32 × Int32} : frR (B_R_groupOf_15 x3 y) := by
  unfold B_R_groupOf_15
  repeat' first | with_reducible exact frR_rt | with_reducible exact frR_rd | with_reducible exact frR_ld | with_reducible refine frR_wr ?_ | with_reducible refine frR_sr ?_ | with_reducible exact frR_gd | with_reducible exact frR_gdZ | with_reducible exact fr_F_R_has | with_reducible refine frR_bn ?_ fun _ => ?_ | with_reducible refine frR_ite ?_ ?_ | omega
theorem fr_K_R_groupOf_48 {x2 : Int32} {x3 : Int32} : frR (K_R_groupOf_48 x2 x3) := by
  unfold K_R_groupOf_48
  repeat' first | with_reducible exact frR_rt | with_reducible exact frR_rd | with_reducible exact frR_ld | with_reducible refine frR_wr ?_ | with_reducible refine frR_sr ?_ | with_reducible exact frR_gd | with_reducible exact frR_gdZ | with_reducible refine frR_bn ?_ fun _ => ?_ | with_reducible refine frR_ite ?_ ?_ | omega
theorem fr_K_R_groupOf_15 {x2 : Int32} {x3 : Int32} {x4 : Int32} : frR (K_R_groupOf_15 x2 x3 x4) := by
  unfold K_R_groupOf_15
  repeat' first | with_reducible exact frR_rt | with_reducible exact frR_rd | with_reducible exact frR_ld | with_reducible refine frR_wr ?_ | with_reducible refine frR_sr ?_ | with_reducible exact frR_gd | with_reducible exact frR_gdZ | with_reducible exact fr_B_R_groupOf_15 | with_reducible exact fr_K_R_groupOf_48 | with_reducible refine frR_bn ?_ fun _ => ?_ | with_reducible refine frR_ite ?_ ?_ | with_reducible refine frR_lp fun _ => ?_ | omega
theorem fr_B_R_groupOf_6 {y : Int32 × Int32} : frR (B_R_groupOf_6 y) := by
  unfold B_R_groupOf_6
  repeat' first | with_reducible exact frR_rt | with_reducible exact frR_rd | with_reducible exact frR_ld | with_reducible refine frR_wr ?_ | with_reducible refine frR_sr ?_ | with_reducible exact frR_gd | with_reducible exact frR_gdZ | with_reducible exact fr_K_R_groupOf_15 | with_reducible refine frR_bn ?_ fun _ => ?_ | with_reducible refine frR_ite ?_ ?_ | omega
theorem fr_K_R_groupOf_6 {x2 : Int32} {x3 : Int32} : frR (K_R_groupOf_6 x2 x3) := by
  unfold K_R_groupOf_6
  repeat' first | with_reducible exact frR_rt | with_reducible exact frR_rd | with_reducible exact frR_ld | with_reducible refine frR_wr ?_ | with_reducible refine frR_sr ?_ | with_reducible exact frR_gd | with_reducible exact frR_gdZ | with_reducible exact fr_B_R_groupOf_6 | with_reducible refine frR_bn ?_ fun _ => ?_ | with_reducible refine frR_ite ?_ ?_ | with_reducible refine frR_lp fun _ => ?_ | omega
theorem fr_F_R_groupOf {x1 : Int32} : frR (F_R_groupOf x1) := by
  unfold F_R_groupOf
  repeat' first | with_reducible exact frR_rt | with_reducible exact frR_rd | with_reducible exact frR_ld | with_reducible refine frR_wr ?_ | with_reducible refine frR_sr ?_ | with_reducible exact frR_gd | with_reducible exact frR_gdZ | with_reducible exact fr_K_R_groupOf_6 | with_reducible refine frR_bn ?_ fun _ => ?_ | with_reducible refine frR_ite ?_ ?_ | omega
theorem fr_B_R_canBeOne_2 {x1 : Int32} {y : Int32} : frR (B_R_canBeOne_2 x1 y) := by
  unfold B_R_canBeOne_2
  repeat' first | with_reducible exact frR_rt | with_reducible exact frR_rd | with_reducible exact frR_ld | with_reducible refine frR_wr ?_ | with_reducible refine frR_sr ?_ | with_reducible exact frR_gd | with_reducible exact frR_gdZ | with_reducible exact fr_F_R_has | with_reducible exact fr_F_R_groupOf | with_reducible refine frR_bn ?_ fun _ => ?_ | with_reducible refine frR_ite ?_ ?_ | omega
theorem fr_K_R_canBeOne_2 {x1 : Int32} {x2 : Int32} : frR (K_R_canBeOne_2 x1 x2) := by
  unfold K_R_canBeOne_2
  repeat' first | with_reducible exact frR_rt | with_reducible exact frR_rd | with_reducible exact frR_ld | with_reducible refine frR_wr ?_ | with_reducible refine frR_sr ?_ | with_reducible exact frR_gd | with_reducible exact frR_gdZ | with_reducible exact fr_B_R_canBeOne_2 | with_reducible refine frR_bn ?_ fun _ => ?_ | with_reducible refine frR_ite ?_ ?_ | with_reducible refine frR_lp fun _ => ?_ | omega
theorem fr_F_R_canBeOne {x1 : Int32} : frR (F_R_canBeOne x1) := by
  unfold F_R_canBeOne
  repeat' first | with_reducible exact frR_rt | with_reducible exact frR_rd | with_reducible exact frR_ld | with_reducible refine frR_wr ?_ | with_reducible refine frR_sr ?_ | with_reducible exact frR_gd | with_reducible exact frR_gdZ | with_reducible exact fr_K_R_canBeOne_2 | with_reducible refine frR_bn ?_ fun _ => ?_ | with_reducible refine frR_ite ?_ ?_ | omega
theorem fr_B_R_fewestNamed_2 {y : Int32} : frR (B_R_fewestNamed_2 y) := by
  unfold B_R_fewestNamed_2
  repeat' first | with_reducible exact frR_rt | with_reducible exact frR_rd | with_reducible exact frR_ld | with_reducible refine frR_wr ?_ | with_reducible refine frR_sr ?_ | with_reducible exact frR_gd | with_reducible exact frR_gdZ | with_reducible refine frR_bn ?_ fun _ => ?_ | with_reducible refine frR_ite ?_ ?_ | omega
theorem fr_B_R_fewestNamed_62 {x1 : Int32} {x2 : Int32} {y : Int32} : frR (B_R_fewestNamed_62 x1 x2 y) := by
  unfold B_R_fewestNamed_62
  repeat' first | with_reducible exact frR_rt | with_reducible exact frR_rd | with_reducible exact frR_ld | with_reducible refine frR_wr ?_ | with_reducible refine frR_sr ?_ | with_reducible exact frR_gd | with_reducible exact frR_gdZ | with_reducible exact fr_F_R_lesser | with_reducible refine frR_bn ?_ fun _ => ?_ | with_reducible refine frR_ite ?_ ?_ | omega
theorem fr_K_R_fewestNamed_111 {x1 : Int32} : frR (K_R_fewestNamed_111 x1) := by
  unfold K_R_fewestNamed_111
  repeat' first | with_reducible exact frR_rt | with_reducible exact frR_rd | with_reducible exact frR_ld | with_reducible refine frR_wr ?_ | with_reducible refine frR_sr ?_ | with_reducible exact frR_gd | with_reducible exact frR_gdZ | with_reducible refine frR_bn ?_ fun _ => ?_ | with_reducible refine frR_ite ?_ ?_ | omega
theorem fr_K_R_fewestNamed_62 {x1 : Int32} {x2 : Int32} {x3 : Int32} : frR (K_R_fewestNamed_62 x1 x2 x3) := by
  unfold K_R_fewestNamed_62
  repeat' first | with_reducible exact frR_rt | with_reducible exact frR_rd | with_reducible exact frR_ld | with_reducible refine frR_wr ?_ | with_reducible refine frR_sr ?_ | with_reducible exact frR_gd | with_reducible exact frR_gdZ | with_reducible exact fr_B_R_fewestNamed_62 | with_reducible exact fr_K_R_fewestNamed_111 | with_reducible refine frR_bn ?_ fun _ => ?_ | with_reducible refine frR_ite ?_ ?_ | with_reducible refine frR_lp fun _ => ?_ | omega
theorem fr_B_R_fewestNamed_34 {y : Int32} : frR (B_R_fewestNamed_34 y) := by
  unfold B_R_fewestNamed_34
  repeat' first | with_reducible exact frR_rt | with_reducible exact frR_rd | with_reducible exact frR_ld | with_reducible refine frR_wr ?_ | with_reducible refine frR_sr ?_ | with_reducible exact frR_gd | with_reducible exact frR_gdZ | with_reducible exact fr_F_R_canBeOne | with_reducible exact fr_K_R_fewestNamed_111 | with_reducible exact fr_K_R_fewestNamed_62 | with_reducible refine frR_bn ?_ fun _ => ?_ | with_reducible refine frR_ite ?_ ?_ | omega
theorem fr_K_R_fewestNamed_34 {x1 : Int32} : frR (K_R_fewestNamed_34 x1) := by
  unfold K_R_fewestNamed_34
  repeat' first | with_reducible exact frR_rt | with_reducible exact frR_rd | with_reducible exact frR_ld | with_reducible refine frR_wr ?_ | with_reducible refine frR_sr ?_ | with_reducible exact frR_gd | with_reducible exact frR_gdZ | with_reducible exact fr_B_R_fewestNamed_34 | with_reducible refine frR_bn ?_ fun _ => ?_ | with_reducible refine frR_ite ?_ ?_ | with_reducible refine frR_lp fun _ => ?_ | omega
theorem fr_K_R_fewestNamed_32 : frR K_R_fewestNamed_32 := by
  unfold K_R_fewestNamed_32
  repeat' first | with_reducible exact frR_rt | with_reducible exact frR_rd | with_reducible exact frR_ld | with_reducible refine frR_wr ?_ | with_reducible refine frR_sr ?_ | with_reducible exact frR_gd | with_reducible exact frR_gdZ | with_reducible exact fr_K_R_fewestNamed_34 | with_reducible refine frR_bn ?_ fun _ => ?_ | with_reducible refine frR_ite ?_ ?_ | omega
theorem fr_K_R_fewestNamed_2 {x1 : Int32} : frR (K_R_fewestNamed_2 x1) := by
  unfold K_R_fewestNamed_2
  repeat' first | with_reducible exact frR_rt | with_reducible exact frR_rd | with_reducible exact frR_ld | with_reducible refine frR_wr ?_ | with_reducible refine frR_sr ?_ | with_reducible exact frR_gd | with_reducible exact frR_gdZ | with_reducible exact fr_B_R_fewestNamed_2 | with_reducible exact fr_K_R_fewestNamed_32 | with_reducible refine frR_bn ?_ fun _ => ?_ | with_reducible refine frR_ite ?_ ?_ | with_reducible refine frR_lp fun _ => ?_ | omega
theorem fr_F_R_fewestNamed : frR F_R_fewestNamed := by
  unfold F_R_fewestNamed
  repeat' first | with_reducible exact frR_rt | with_reducible exact frR_rd | with_reducible exact frR_ld | with_reducible refine frR_wr ?_ | with_reducible refine frR_sr ?_ | with_reducible exact frR_gd | with_reducible exact frR_gdZ | with_reducible exact fr_K_R_fewestNamed_2 | with_reducible refine frR_bn ?_ fun _ => ?_ | with_reducible refine frR_ite ?_ ?_ | omega
theorem fr_B_R_groups_6 {y : Int32 × Int32 × Int32} : frR (B_R_groups_6 y) := by
  unfold B_R_groups_6
  repeat' first | with_reducible exact frR_rt | with_reducible exact frR_rd | with_reducible exact frR_ld | with_reducible refine frR_wr ?_ | with_reducible refine frR_sr ?_ | with_reducible exact frR_gd | with_reducible exact frR_gdZ | with_reducible exact fr_F_R_has | with_reducible exact fr_F_R_groupOf | with_reducible refine frR_bn ?_ fun _ => ?_ | with_reducible refine frR_ite ?_ ?_ | omega
theorem fr_K_R_groups_6 {x1 : Int32} {x2 : Int32} {x3 : Int32} : frR (K_R_groups_6 x1 x2 x3) := by
  unfold K_R_groups_6
  repeat' first | with_reducible exact frR_rt | with_reducible exact frR_rd | with_reducible exact frR_ld | with_reducible refine frR_wr ?_ | with_reducible refine frR_sr ?_ | with_reducible exact frR_gd | with_reducible exact frR_gdZ | with_reducible exact fr_B_R_groups_6 | with_reducible refine frR_bn ?_ fun _ => ?_ | with_reducible refine frR_ite ?_ ?_ | with_reducible refine frR_lp fun _ => ?_ | omega
theorem fr_F_R_groups : frR F_R_groups := by
  unfold F_R_groups
  repeat' first | with_reducible exact frR_rt | with_reducible exact frR_rd | with_reducible exact frR_ld | with_reducible refine frR_wr ?_ | with_reducible refine frR_sr ?_ | with_reducible exact frR_gd | with_reducible exact frR_gdZ | with_reducible exact fr_K_R_groups_6 | with_reducible refine frR_bn ?_ fun _ => ?_ | with_reducible refine frR_ite ?_ ?_ | omega
theorem fr_B_R_names_30 {x1 : Int32} {y : Int32 × Int32} : frR (B_R_names_30 x1 y) := by
  unfold B_R_names_30
  repeat' first | with_reducible exact frR_rt | with_reducible exact frR_rd | with_reducible exact frR_ld | with_reducible refine frR_wr ?_ | with_reducible refine frR_sr ?_ | with_reducible exact frR_gd | with_reducible exact frR_gdZ | with_reducible exact fr_F_R_groupOf | with_reducible refine frR_bn ?_ fun _ => ?_ | with_reducible refine frR_ite ?_ ?_ | omega
theorem fr_K_R_names_59 {x1 : Int32} {x2 : Int32} : frR (K_R_names_59 x1 x2) := by
  unfold K_R_names_59
  repeat' first | with_reducible exact frR_rt | with_reducible exact frR_rd | with_reducible exact frR_ld | with_reducible refine frR_wr ?_ | with_reducible refine frR_sr ?_ | with_reducible exact frR_gd | with_reducible exact frR_gdZ | with_reducible exact fr_F_R_fewestNamed | with_reducible refine frR_bn ?_ fun _ => ?_ | with_reducible refine frR_ite ?_ ?_ | omega
theorem fr_K_R_names_30 {x1 : Int32} {x2 : Int32} {x3 : Int32} : frR (K_R_names_30 x1 x2 x3) := by
  unfold K_R_names_30
  repeat' first | with_reducible exact frR_rt | with_reducible exact frR_rd | with_reducible exact frR_ld | with_reducible refine frR_wr ?_ | with_reducible refine frR_sr ?_ | with_reducible exact frR_gd | with_reducible exact frR_gdZ | with_reducible exact fr_B_R_names_30 | with_reducible exact fr_K_R_names_59 | with_reducible refine frR_bn ?_ fun _ => ?_ | with_reducible refine frR_ite ?_ ?_ | with_reducible refine frR_lp fun _ => ?_ | omega
theorem fr_F_R_names {x1 : Int32} : frR (F_R_names x1) := by
  unfold F_R_names
  repeat' first | with_reducible exact frR_rt | with_reducible exact frR_rd | with_reducible exact frR_ld | with_reducible refine frR_wr ?_ | with_reducible refine frR_sr ?_ | with_reducible exact frR_gd | with_reducible exact frR_gdZ | with_reducible exact fr_F_R_isIn | with_reducible exact fr_F_R_groups | with_reducible exact fr_K_R_names_30 | with_reducible refine frR_bn ?_ fun _ => ?_ | with_reducible refine frR_ite ?_ ?_ | omega
theorem fr_B_R_netAt_5 {x1 : Int32} {x2 : Int32} {y : Int32 × Int32} : frR (B_R_netAt_5 x1 x2 y) := by
  unfold B_R_netAt_5
  repeat' first | with_reducible exact frR_rt | with_reducible exact frR_rd | with_reducible exact frR_ld | with_reducible refine frR_wr ?_ | with_reducible refine frR_sr ?_ | with_reducible exact frR_gd | with_reducible exact frR_gdZ | with_reducible exact fr_F_R_isStruck | with_reducible exact fr_F_R_isIn | with_reducible refine frR_bn ?_ fun _ => ?_ | with_reducible refine frR_ite ?_ ?_ | omega
theorem fr_K_R_netAt_5 {x1 : Int32} {x2 : Int32} {x3 : Int32} {x4 : Int32} : frR (K_R_netAt_5 x1 x2 x3 x4) := by
  unfold K_R_netAt_5
  repeat' first | with_reducible exact frR_rt | with_reducible exact frR_rd | with_reducible exact frR_ld | with_reducible refine frR_wr ?_ | with_reducible refine frR_sr ?_ | with_reducible exact frR_gd | with_reducible exact frR_gdZ | with_reducible exact fr_B_R_netAt_5 | with_reducible refine frR_bn ?_ fun _ => ?_ | with_reducible refine frR_ite ?_ ?_ | with_reducible refine frR_lp fun _ => ?_ | omega
theorem fr_F_R_netAt {x1 : Int32} {x2 : Int32} : frR (F_R_netAt x1 x2) := by
  unfold F_R_netAt
  repeat' first | with_reducible exact frR_rt | with_reducible exact frR_rd | with_reducible exact frR_ld | with_reducible refine frR_wr ?_ | with_reducible refine frR_sr ?_ | with_reducible exact frR_gd | with_reducible exact frR_gdZ | with_reducible exact fr_K_R_netAt_5 | with_reducible refine frR_bn ?_ fun _ => ?_ | with_reducible refine frR_ite ?_ ?_ | omega
theorem fr_B_R_net_33 {x1 : Int32} {x2 : Int32} {y : Int32 × Int32} : frR (B_R_net_33 x1 x2 y) := by
  unfold B_R_net_33
  repeat' first | with_reducible exact frR_rt | with_reducible exact frR_rd | with_reducible exact frR_ld | with_reducible refine frR_wr ?_ | with_reducible refine frR_sr ?_ | with_reducible exact frR_gd | with_reducible exact frR_gdZ | with_reducible exact fr_F_R_netAt | with_reducible refine frR_bn ?_ fun _ => ?_ | with_reducible refine frR_ite ?_ ?_ | omega
theorem fr_K_R_net_67 {x1 : Int32} {x2 : Int32} {x3 : Int32} : frR (K_R_net_67 x1 x2 x3) := by
  unfold K_R_net_67
  repeat' first | with_reducible exact frR_rt | with_reducible exact frR_rd | with_reducible exact frR_ld | with_reducible refine frR_wr ?_ | with_reducible refine frR_sr ?_ | with_reducible exact frR_gd | with_reducible exact frR_gdZ | with_reducible exact fr_F_R_netAt | with_reducible refine frR_bn ?_ fun _ => ?_ | with_reducible refine frR_ite ?_ ?_ | omega
theorem fr_K_R_net_33 {x1 : Int32} {x2 : Int32} {x3 : Int32} {x4 : Int32} : frR (K_R_net_33 x1 x2 x3 x4) := by
  unfold K_R_net_33
  repeat' first | with_reducible exact frR_rt | with_reducible exact frR_rd | with_reducible exact frR_ld | with_reducible refine frR_wr ?_ | with_reducible refine frR_sr ?_ | with_reducible exact frR_gd | with_reducible exact frR_gdZ | with_reducible exact fr_B_R_net_33 | with_reducible exact fr_K_R_net_67 | with_reducible refine frR_bn ?_ fun _ => ?_ | with_reducible refine frR_ite ?_ ?_ | with_reducible refine frR_lp fun _ => ?_ | omega
theorem fr_F_R_net {x1 : Int32} {x2 : Int32} : frR (F_R_net x1 x2) := by
  unfold F_R_net
  repeat' first | with_reducible exact frR_rt | with_reducible exact frR_rd | with_reducible exact frR_ld | with_reducible refine frR_wr ?_ | with_reducible refine frR_sr ?_ | with_reducible exact frR_gd | with_reducible exact frR_gdZ | with_reducible exact fr_F_R_isIn | with_reducible exact fr_K_R_net_33 | with_reducible refine frR_bn ?_ fun _ => ?_ | with_reducible refine frR_ite ?_ ?_ | omega
theorem fr_K_R_notes_116 {x1 : Int32} {x2 : Int32} {x3 : Int32} {x4 : Int32} : frR (K_R_notes_116 x1 x2 x3 x4) := by
  unfold K_R_notes_116
  repeat' first | with_reducible exact frR_rt | with_reducible exact frR_rd | with_reducible exact frR_ld | with_reducible refine frR_wr ?_ | with_reducible refine frR_sr ?_ | with_reducible exact frR_gd | with_reducible exact frR_gdZ | with_reducible refine frR_bn ?_ fun _ => ?_ | with_reducible refine frR_ite ?_ ?_ | omega
theorem fr_B_R_notes_76 {x1 : Int32} {x2 : Int32} {x3 : Int32} {y : Int32} : frR (B_R_notes_76 x1 x2 x3 y) := by
  unfold B_R_notes_76
  repeat' first | with_reducible exact frR_rt | with_reducible exact frR_rd | with_reducible exact frR_ld | with_reducible refine frR_wr ?_ | with_reducible refine frR_sr ?_ | with_reducible exact frR_gd | with_reducible exact frR_gdZ | with_reducible exact fr_K_R_notes_116 | with_reducible refine frR_bn ?_ fun _ => ?_ | with_reducible refine frR_ite ?_ ?_ | with_reducible refine frR_dvI ?_ | omega
theorem fr_K_R_notes_153 {x1 : Int32} {x3 : Int32} : frR (K_R_notes_153 x1 x3) := by
  unfold K_R_notes_153
  repeat' first | with_reducible exact frR_rt | with_reducible exact frR_rd | with_reducible exact frR_ld | with_reducible refine frR_wr ?_ | with_reducible refine frR_sr ?_ | with_reducible exact frR_gd | with_reducible exact frR_gdZ | with_reducible refine frR_bn ?_ fun _ => ?_ | with_reducible refine frR_ite ?_ ?_ | omega
theorem fr_K_R_notes_76 {x1 : Int32} {x2 : Int32} {x3 : Int32} {x4 : Int32} : frR (K_R_notes_76 x1 x2 x3 x4) := by
  unfold K_R_notes_76
  repeat' first | with_reducible exact frR_rt | with_reducible exact frR_rd | with_reducible exact frR_ld | with_reducible refine frR_wr ?_ | with_reducible refine frR_sr ?_ | with_reducible exact frR_gd | with_reducible exact frR_gdZ | with_reducible exact fr_B_R_notes_76 | with_reducible exact fr_K_R_notes_153 | with_reducible refine frR_bn ?_ fun _ => ?_ | with_reducible refine frR_ite ?_ ?_ | with_reducible refine frR_lp fun _ => ?_ | split | omega
theorem fr_F_R_notes {x1 : Int32} : frR (F_R_notes x1) := by
  unfold F_R_notes
  repeat' first | with_reducible exact frR_rt | with_reducible exact frR_rd | with_reducible exact frR_ld | with_reducible refine frR_wr ?_ | with_reducible refine frR_sr ?_ | with_reducible exact frR_gd | with_reducible exact frR_gdZ | with_reducible exact fr_F_R_isIn | with_reducible exact fr_K_R_notes_76 | with_reducible refine frR_bn ?_ fun _ => ?_ | with_reducible refine frR_ite ?_ ?_ | with_reducible refine frR_dvI ?_ | omega
theorem fr_F_R_of {x1 : Int32} {x2 : Int32} : frR (F_R_of x1 x2) := by
  unfold F_R_of
  repeat' first | with_reducible exact frR_rt | with_reducible exact frR_rd | with_reducible exact frR_ld | with_reducible refine frR_wr ?_ | with_reducible refine frR_sr ?_ | with_reducible exact frR_gd | with_reducible exact frR_gdZ | with_reducible exact fr_F_R_isAlias | with_reducible exact fr_F_R_seenOf | with_reducible exact fr_F_R_costsOf | with_reducible exact fr_F_R_gainsOf | with_reducible refine frR_bn ?_ fun _ => ?_ | with_reducible refine frR_ite ?_ ?_ | omega
theorem fr_B_R_pair_18 {y : Int32} : frR (B_R_pair_18 y) := by
  unfold B_R_pair_18
  repeat' first | with_reducible exact frR_rt | with_reducible exact frR_rd | with_reducible exact frR_ld | with_reducible refine frR_wr ?_ | with_reducible refine frR_sr ?_ | with_reducible exact frR_gd | with_reducible exact frR_gdZ | with_reducible refine frR_bn ?_ fun _ => ?_ | with_reducible refine frR_ite ?_ ?_ | omega
theorem fr_K_R_pair_18 {x4 : Int32} : frR (K_R_pair_18 x4) := by
  unfold K_R_pair_18
  repeat' first | with_reducible exact frR_rt | with_reducible exact frR_rd | with_reducible exact frR_ld | with_reducible refine frR_wr ?_ | with_reducible refine frR_sr ?_ | with_reducible exact frR_gd | with_reducible exact frR_gdZ | with_reducible exact fr_B_R_pair_18 | with_reducible refine frR_bn ?_ fun _ => ?_ | with_reducible refine frR_ite ?_ ?_ | with_reducible refine frR_lp fun _ => ?_ | omega
theorem fr_F_R_pair {x1 : Int32} {x2 : Int32} {x3 : Int32} : frR (F_R_pair x1 x2 x3) := by
  unfold F_R_pair
  repeat' first | with_reducible exact frR_rt | with_reducible exact frR_rd | with_reducible exact frR_ld | with_reducible refine frR_wr ?_ | with_reducible refine frR_sr ?_ | with_reducible exact frR_gd | with_reducible exact frR_gdZ | with_reducible exact fr_K_R_pair_18 | with_reducible exact fr_F_R_isIn | with_reducible refine frR_bn ?_ fun _ => ?_ | with_reducible refine frR_ite ?_ ?_ | omega
theorem fr_F_R_person {x1 : Int32} {x2 : Int32} : frR (F_R_person x1 x2) := by
  unfold F_R_person
  repeat' first | with_reducible exact frR_rt | with_reducible exact frR_rd | with_reducible exact frR_ld | with_reducible refine frR_wr ?_ | with_reducible refine frR_sr ?_ | with_reducible exact frR_gd | with_reducible exact frR_gdZ | with_reducible exact fr_F_R_isIn | with_reducible refine frR_bn ?_ fun _ => ?_ | with_reducible refine frR_ite ?_ ?_ | omega
theorem fr_B_R_wayOf_34 {x2 : Int32} {x3 : Int32} {x4 : Int32} {y : Int32 × Int32} : frR (B_R_wayOf_34 x2 x3 x4 y) := by
  unfold B_R_wayOf_34
  repeat' first | with_reducible exact frR_rt | with_reducible exact frR_rd | with_reducible exact frR_ld | with_reducible refine frR_wr ?_ | with_reducible refine frR_sr ?_ | with_reducible exact frR_gd | with_reducible exact frR_gdZ | with_reducible exact fr_F_R_has | with_reducible refine frR_bn ?_ fun _ => ?_ | with_reducible refine frR_ite ?_ ?_ | omega
theorem fr_K_R_wayOf_69 {x2 : Int32} {x4 : Int32} {x5 : Int32} : frR (K_R_wayOf_69 x2 x4 x5) := by
  unfold K_R_wayOf_69
  repeat' first | with_reducible exact frR_rt | with_reducible exact frR_rd | with_reducible exact frR_ld | with_reducible refine frR_wr ?_ | with_reducible refine frR_sr ?_ | with_reducible exact frR_gd | with_reducible exact frR_gdZ | with_reducible refine frR_bn ?_ fun _ => ?_ | with_reducible refine frR_ite ?_ ?_ | omega
theorem fr_K_R_wayOf_34 {x2 : Int32} {x3 : Int32} {x4 : Int32} {x5 : Int32} {x6 : Int32} : frR (K_R_wayOf_34 x2 x3 x4 x5 x6) := by
  unfold K_R_wayOf_34
  repeat' first | with_reducible exact frR_rt | with_reducible exact frR_rd | with_reducible exact frR_ld | with_reducible refine frR_wr ?_ | with_reducible refine frR_sr ?_ | with_reducible exact frR_gd | with_reducible exact frR_gdZ | with_reducible exact fr_B_R_wayOf_34 | with_reducible exact fr_K_R_wayOf_69 | with_reducible refine frR_bn ?_ fun _ => ?_ | with_reducible refine frR_ite ?_ ?_ | with_reducible refine frR_lp fun _ => ?_ | omega
theorem fr_B_R_wayOf_7 {x2 : Int32} {y : Int32 × Int32} : frR (B_R_wayOf_7 x2 y) := by
  unfold B_R_wayOf_7
  repeat' first | with_reducible exact frR_rt | with_reducible exact frR_rd | with_reducible exact frR_ld | with_reducible refine frR_wr ?_ | with_reducible refine frR_sr ?_ | with_reducible exact frR_gd | with_reducible exact frR_gdZ | with_reducible exact fr_F_R_has | with_reducible exact fr_K_R_wayOf_34 | with_reducible refine frR_bn ?_ fun _ => ?_ | with_reducible refine frR_ite ?_ ?_ | omega
theorem fr_K_R_wayOf_7 {x2 : Int32} {x3 : Int32} {x4 : Int32} : frR (K_R_wayOf_7 x2 x3 x4) := by
  unfold K_R_wayOf_7
  repeat' first | with_reducible exact frR_rt | with_reducible exact frR_rd | with_reducible exact frR_ld | with_reducible refine frR_wr ?_ | with_reducible refine frR_sr ?_ | with_reducible exact frR_gd | with_reducible exact frR_gdZ | with_reducible exact fr_B_R_wayOf_7 | with_reducible refine frR_bn ?_ fun _ => ?_ | with_reducible refine frR_ite ?_ ?_ | with_reducible refine frR_lp fun _ => ?_ | omega
theorem fr_F_R_wayOf {x1 : Int32} {x2 : Int32} : frR (F_R_wayOf x1 x2) := by
  unfold F_R_wayOf
  repeat' first | with_reducible exact frR_rt | with_reducible exact frR_rd | with_reducible exact frR_ld | with_reducible refine frR_wr ?_ | with_reducible refine frR_sr ?_ | with_reducible exact frR_gd | with_reducible exact frR_gdZ | with_reducible exact fr_K_R_wayOf_7 | with_reducible refine frR_bn ?_ fun _ => ?_ | with_reducible refine frR_ite ?_ ?_ | omega
theorem fr_K_R_canCome_34 {x1 : Int32} {x2 : Int32} {x3 : Int32} : frR (K_R_canCome_34 x1 x2 x3) := by
  unfold K_R_canCome_34
  repeat' first | with_reducible exact frR_rt | with_reducible exact frR_rd | with_reducible exact frR_ld | with_reducible refine frR_wr ?_ | with_reducible refine frR_sr ?_ | with_reducible exact frR_gd | with_reducible exact frR_gdZ | with_reducible exact fr_F_R_wayOf | with_reducible refine frR_bn ?_ fun _ => ?_ | with_reducible refine frR_ite ?_ ?_ | omega
theorem fr_F_R_canCome {x1 : Int32} {x2 : Int32} : frR (F_R_canCome x1 x2) := by
  unfold F_R_canCome
  repeat' first | with_reducible exact frR_rt | with_reducible exact frR_rd | with_reducible exact frR_ld | with_reducible refine frR_wr ?_ | with_reducible refine frR_sr ?_ | with_reducible exact frR_gd | with_reducible exact frR_gdZ | with_reducible exact fr_K_R_canCome_34 | with_reducible refine frR_bn ?_ fun _ => ?_ | with_reducible refine frR_ite ?_ ?_ | omega
theorem fr_B_R_fewestPersons_9 {x1 : Int32} {y : Int32} : frR (B_R_fewestPersons_9 x1 y) := by
  unfold B_R_fewestPersons_9
  repeat' first | with_reducible exact frR_rt | with_reducible exact frR_rd | with_reducible exact frR_ld | with_reducible refine frR_wr ?_ | with_reducible refine frR_sr ?_ | with_reducible exact frR_gd | with_reducible exact frR_gdZ | with_reducible refine frR_bn ?_ fun _ => ?_ | with_reducible refine frR_ite ?_ ?_ | omega
theorem fr_B_R_fewestPersons_49 {x1 : Int32} {x2 : Int32} {y : Int32} : frR (B_R_fewestPersons_49 x1 x2 y) := by
  unfold B_R_fewestPersons_49
  repeat' first | with_reducible exact frR_rt | with_reducible exact frR_rd | with_reducible exact frR_ld | with_reducible refine frR_wr ?_ | with_reducible refine frR_sr ?_ | with_reducible exact frR_gd | with_reducible exact frR_gdZ | with_reducible refine frR_bn ?_ fun _ => ?_ | with_reducible refine frR_ite ?_ ?_ | omega
theorem fr_B_R_fewestPersons_97 {x1 : Int32} {x2 : Int32} {x3 : Int32} {y : Int32} : frR (B_R_fewestPersons_97 x1 x2 x3 y) := by
  unfold B_R_fewestPersons_97
  repeat' first | with_reducible exact frR_rt | with_reducible exact frR_rd | with_reducible exact frR_ld | with_reducible refine frR_wr ?_ | with_reducible refine frR_sr ?_ | with_reducible exact frR_gd | with_reducible exact frR_gdZ | with_reducible exact fr_F_R_has | with_reducible exact fr_F_R_greater | with_reducible refine frR_bn ?_ fun _ => ?_ | with_reducible refine frR_ite ?_ ?_ | omega
theorem fr_K_R_fewestPersons_154 {x1 : Int32} {x2 : Int32} {x3 : Int32} : frR (K_R_fewestPersons_154 x1 x2 x3) := by
  unfold K_R_fewestPersons_154
  repeat' first | with_reducible exact frR_rt | with_reducible exact frR_rd | with_reducible exact frR_ld | with_reducible refine frR_wr ?_ | with_reducible refine frR_sr ?_ | with_reducible exact frR_gd | with_reducible exact frR_gdZ | with_reducible refine frR_bn ?_ fun _ => ?_ | with_reducible refine frR_ite ?_ ?_ | omega
theorem fr_K_R_fewestPersons_97 {x1 : Int32} {x2 : Int32} {x3 : Int32} {x4 : Int32} : frR (K_R_fewestPersons_97 x1 x2 x3 x4) := by
  unfold K_R_fewestPersons_97
  repeat' first | with_reducible exact frR_rt | with_reducible exact frR_rd | with_reducible exact frR_ld | with_reducible refine frR_wr ?_ | with_reducible refine frR_sr ?_ | with_reducible exact frR_gd | with_reducible exact frR_gdZ | with_reducible exact fr_B_R_fewestPersons_97 | with_reducible exact fr_K_R_fewestPersons_154 | with_reducible refine frR_bn ?_ fun _ => ?_ | with_reducible refine frR_ite ?_ ?_ | with_reducible refine frR_lp fun _ => ?_ | omega
theorem fr_B_R_fewestPersons_74 {x1 : Int32} {x2 : Int32} {y : Int32} : frR (B_R_fewestPersons_74 x1 x2 y) := by
  unfold B_R_fewestPersons_74
  repeat' first | with_reducible exact frR_rt | with_reducible exact frR_rd | with_reducible exact frR_ld | with_reducible refine frR_wr ?_ | with_reducible refine frR_sr ?_ | with_reducible exact frR_gd | with_reducible exact frR_gdZ | with_reducible exact fr_F_R_canCome | with_reducible exact fr_K_R_fewestPersons_154 | with_reducible exact fr_K_R_fewestPersons_97 | with_reducible refine frR_bn ?_ fun _ => ?_ | with_reducible refine frR_ite ?_ ?_ | omega
theorem fr_B_R_fewestPersons_162 {x1 : Int32} {x2 : Int32} {y : Int32} : frR (B_R_fewestPersons_162 x1 x2 y) := by
  unfold B_R_fewestPersons_162
  repeat' first | with_reducible exact frR_rt | with_reducible exact frR_rd | with_reducible exact frR_ld | with_reducible refine frR_wr ?_ | with_reducible refine frR_sr ?_ | with_reducible exact frR_gd | with_reducible exact frR_gdZ | with_reducible refine frR_bn ?_ fun _ => ?_ | with_reducible refine frR_ite ?_ ?_ | omega
theorem fr_K_R_fewestPersons_185 {x1 : Int32} {x2 : Int32} : frR (K_R_fewestPersons_185 x1 x2) := by
  unfold K_R_fewestPersons_185
  repeat' first | with_reducible exact frR_rt | with_reducible exact frR_rd | with_reducible exact frR_ld | with_reducible refine frR_wr ?_ | with_reducible refine frR_sr ?_ | with_reducible exact frR_gd | with_reducible exact frR_gdZ | with_reducible refine frR_bn ?_ fun _ => ?_ | with_reducible refine frR_ite ?_ ?_ | omega
theorem fr_K_R_fewestPersons_162 {x1 : Int32} {x2 : Int32} {x3 : Int32} : frR (K_R_fewestPersons_162 x1 x2 x3) := by
  unfold K_R_fewestPersons_162
  repeat' first | with_reducible exact frR_rt | with_reducible exact frR_rd | with_reducible exact frR_ld | with_reducible refine frR_wr ?_ | with_reducible refine frR_sr ?_ | with_reducible exact frR_gd | with_reducible exact frR_gdZ | with_reducible exact fr_B_R_fewestPersons_162 | with_reducible exact fr_K_R_fewestPersons_185 | with_reducible refine frR_bn ?_ fun _ => ?_ | with_reducible refine frR_ite ?_ ?_ | with_reducible refine frR_lp fun _ => ?_ | omega
theorem fr_K_R_fewestPersons_160 {x1 : Int32} {x2 : Int32} : frR (K_R_fewestPersons_160 x1 x2) := by
  unfold K_R_fewestPersons_160
  repeat' first | with_reducible exact frR_rt | with_reducible exact frR_rd | with_reducible exact frR_ld | with_reducible refine frR_wr ?_ | with_reducible refine frR_sr ?_ | with_reducible exact frR_gd | with_reducible exact frR_gdZ | with_reducible exact fr_K_R_fewestPersons_162 | with_reducible refine frR_bn ?_ fun _ => ?_ | with_reducible refine frR_ite ?_ ?_ | omega
theorem fr_K_R_fewestPersons_74 {x1 : Int32} {x2 : Int32} {x3 : Int32} : frR (K_R_fewestPersons_74 x1 x2 x3) := by
  unfold K_R_fewestPersons_74
  repeat' first | with_reducible exact frR_rt | with_reducible exact frR_rd | with_reducible exact frR_ld | with_reducible refine frR_wr ?_ | with_reducible refine frR_sr ?_ | with_reducible exact frR_gd | with_reducible exact frR_gdZ | with_reducible exact fr_B_R_fewestPersons_74 | with_reducible exact fr_K_R_fewestPersons_160 | with_reducible refine frR_bn ?_ fun _ => ?_ | with_reducible refine frR_ite ?_ ?_ | with_reducible refine frR_lp fun _ => ?_ | omega
theorem fr_K_R_fewestPersons_72 {x1 : Int32} {x2 : Int32} : frR (K_R_fewestPersons_72 x1 x2) := by
  unfold K_R_fewestPersons_72
  repeat' first | with_reducible exact frR_rt | with_reducible exact frR_rd | with_reducible exact frR_ld | with_reducible refine frR_wr ?_ | with_reducible refine frR_sr ?_ | with_reducible exact frR_gd | with_reducible exact frR_gdZ | with_reducible exact fr_K_R_fewestPersons_74 | with_reducible refine frR_bn ?_ fun _ => ?_ | with_reducible refine frR_ite ?_ ?_ | omega
theorem fr_K_R_fewestPersons_49 {x1 : Int32} {x2 : Int32} {x3 : Int32} : frR (K_R_fewestPersons_49 x1 x2 x3) := by
  unfold K_R_fewestPersons_49
  repeat' first | with_reducible exact frR_rt | with_reducible exact frR_rd | with_reducible exact frR_ld | with_reducible refine frR_wr ?_ | with_reducible refine frR_sr ?_ | with_reducible exact frR_gd | with_reducible exact frR_gdZ | with_reducible exact fr_B_R_fewestPersons_49 | with_reducible exact fr_K_R_fewestPersons_72 | with_reducible refine frR_bn ?_ fun _ => ?_ | with_reducible refine frR_ite ?_ ?_ | with_reducible refine frR_lp fun _ => ?_ | omega
theorem fr_B_R_fewestPersons_39 {x1 : Int32} {y : Int32} : frR (B_R_fewestPersons_39 x1 y) := by
  unfold B_R_fewestPersons_39
  repeat' first | with_reducible exact frR_rt | with_reducible exact frR_rd | with_reducible exact frR_ld | with_reducible refine frR_wr ?_ | with_reducible refine frR_sr ?_ | with_reducible exact frR_gd | with_reducible exact frR_gdZ | with_reducible exact fr_K_R_fewestPersons_49 | with_reducible refine frR_bn ?_ fun _ => ?_ | with_reducible refine frR_ite ?_ ?_ | omega
theorem fr_B_R_fewestPersons_195 {x1 : Int32} {y : Int32 × Int32} : frR (B_R_fewestPersons_195 x1 y) := by
  unfold B_R_fewestPersons_195
  repeat' first | with_reducible exact frR_rt | with_reducible exact frR_rd | with_reducible exact frR_ld | with_reducible refine frR_wr ?_ | with_reducible refine frR_sr ?_ | with_reducible exact frR_gd | with_reducible exact frR_gdZ | with_reducible exact fr_F_R_greater | with_reducible refine frR_bn ?_ fun _ => ?_ | with_reducible refine frR_ite ?_ ?_ | omega
theorem fr_K_R_fewestPersons_195 {x1 : Int32} {x2 : Int32} {x3 : Int32} : frR (K_R_fewestPersons_195 x1 x2 x3) := by
  unfold K_R_fewestPersons_195
  repeat' first | with_reducible exact frR_rt | with_reducible exact frR_rd | with_reducible exact frR_ld | with_reducible refine frR_wr ?_ | with_reducible refine frR_sr ?_ | with_reducible exact frR_gd | with_reducible exact frR_gdZ | with_reducible exact fr_B_R_fewestPersons_195 | with_reducible refine frR_bn ?_ fun _ => ?_ | with_reducible refine frR_ite ?_ ?_ | with_reducible refine frR_lp fun _ => ?_ | omega
theorem fr_K_R_fewestPersons_191 {x1 : Int32} : frR (K_R_fewestPersons_191 x1) := by
  unfold K_R_fewestPersons_191
  repeat' first | with_reducible exact frR_rt | with_reducible exact frR_rd | with_reducible exact frR_ld | with_reducible refine frR_wr ?_ | with_reducible refine frR_sr ?_ | with_reducible exact frR_gd | with_reducible exact frR_gdZ | with_reducible exact fr_K_R_fewestPersons_195 | with_reducible refine frR_bn ?_ fun _ => ?_ | with_reducible refine frR_ite ?_ ?_ | omega
theorem fr_K_R_fewestPersons_39 {x1 : Int32} {x2 : Int32} : frR (K_R_fewestPersons_39 x1 x2) := by
  unfold K_R_fewestPersons_39
  repeat' first | with_reducible exact frR_rt | with_reducible exact frR_rd | with_reducible exact frR_ld | with_reducible refine frR_wr ?_ | with_reducible refine frR_sr ?_ | with_reducible exact frR_gd | with_reducible exact frR_gdZ | with_reducible exact fr_B_R_fewestPersons_39 | with_reducible exact fr_K_R_fewestPersons_191 | with_reducible refine frR_bn ?_ fun _ => ?_ | with_reducible refine frR_ite ?_ ?_ | with_reducible refine frR_lp fun _ => ?_ | omega
theorem fr_K_R_fewestPersons_37 {x1 : Int32} : frR (K_R_fewestPersons_37 x1) := by
  unfold K_R_fewestPersons_37
  repeat' first | with_reducible exact frR_rt | with_reducible exact frR_rd | with_reducible exact frR_ld | with_reducible refine frR_wr ?_ | with_reducible refine frR_sr ?_ | with_reducible exact frR_gd | with_reducible exact frR_gdZ | with_reducible exact fr_K_R_fewestPersons_39 | with_reducible refine frR_bn ?_ fun _ => ?_ | with_reducible refine frR_ite ?_ ?_ | omega
theorem fr_K_R_fewestPersons_9 {x1 : Int32} {x2 : Int32} : frR (K_R_fewestPersons_9 x1 x2) := by
  unfold K_R_fewestPersons_9
  repeat' first | with_reducible exact frR_rt | with_reducible exact frR_rd | with_reducible exact frR_ld | with_reducible refine frR_wr ?_ | with_reducible refine frR_sr ?_ | with_reducible exact frR_gd | with_reducible exact frR_gdZ | with_reducible exact fr_B_R_fewestPersons_9 | with_reducible exact fr_K_R_fewestPersons_37 | with_reducible refine frR_bn ?_ fun _ => ?_ | with_reducible refine frR_ite ?_ ?_ | with_reducible refine frR_lp fun _ => ?_ | omega
theorem fr_F_R_fewestPersons : frR F_R_fewestPersons := by
  unfold F_R_fewestPersons
  repeat' first | with_reducible exact frR_rt | with_reducible exact frR_rd | with_reducible exact frR_ld | with_reducible refine frR_wr ?_ | with_reducible refine frR_sr ?_ | with_reducible exact frR_gd | with_reducible exact frR_gdZ | with_reducible exact fr_K_R_fewestPersons_9 | with_reducible refine frR_bn ?_ fun _ => ?_ | with_reducible refine frR_ite ?_ ?_ | omega
theorem fr_F_R_persons {x1 : Int32} {x2 : Int32} : frR (F_R_persons x1 x2) := by
  unfold F_R_persons
  repeat' first | with_reducible exact frR_rt | with_reducible exact frR_rd | with_reducible exact frR_ld | with_reducible refine frR_wr ?_ | with_reducible refine frR_sr ?_ | with_reducible exact frR_gd | with_reducible exact frR_gdZ | with_reducible exact fr_F_R_fewestPersons | with_reducible exact fr_F_R_isStreet | with_reducible exact fr_F_R_wayOf | with_reducible refine frR_bn ?_ fun _ => ?_ | with_reducible refine frR_ite ?_ ?_ | omega
theorem fr_F_R_says {x1 : Int32} {x2 : Int32} {x3 : Int32} : frR (F_R_says x1 x2 x3) := by
  unfold F_R_says
  repeat' first | with_reducible exact frR_rt | with_reducible exact frR_rd | with_reducible exact frR_ld | with_reducible refine frR_wr ?_ | with_reducible refine frR_sr ?_ | with_reducible exact frR_gd | with_reducible exact frR_gdZ | with_reducible exact fr_F_R_isIn | with_reducible refine frR_bn ?_ fun _ => ?_ | with_reducible refine frR_ite ?_ ?_ | omega
theorem fr_K_R_canSet_39 {x1 : Int32} {x2 : Int32} {x3 : Int32} : frR (K_R_canSet_39 x1 x2 x3) := by
  unfold K_R_canSet_39
  repeat' first | with_reducible exact frR_rt | with_reducible exact frR_rd | with_reducible exact frR_ld | with_reducible refine frR_wr ?_ | with_reducible refine frR_sr ?_ | with_reducible exact frR_gd | with_reducible exact frR_gdZ | with_reducible exact fr_F_R_isPerson | with_reducible exact fr_F_R_isIn | with_reducible refine frR_bn ?_ fun _ => ?_ | with_reducible refine frR_ite ?_ ?_ | omega
theorem fr_F_R_canSet {x1 : Int32} {x2 : Int32} {x3 : Int32} : frR (F_R_canSet x1 x2 x3) := by
  unfold F_R_canSet
  repeat' first | with_reducible exact frR_rt | with_reducible exact frR_rd | with_reducible exact frR_ld | with_reducible refine frR_wr ?_ | with_reducible refine frR_sr ?_ | with_reducible exact frR_gd | with_reducible exact frR_gdZ | with_reducible exact fr_F_R_isStreet | with_reducible exact fr_F_R_isIn | with_reducible exact fr_K_R_canSet_39 | with_reducible exact fr_F_R_isAlias | with_reducible refine frR_bn ?_ fun _ => ?_ | with_reducible refine frR_ite ?_ ?_ | omega
theorem fr_K_R_set_70 {x1 : Int32} {x2 : Int32} {x3 : Int32} : frR (K_R_set_70 x1 x2 x3) := by
  unfold K_R_set_70
  repeat' first | with_reducible exact frR_rt | with_reducible exact frR_rd | with_reducible exact frR_ld | with_reducible refine frR_wr ?_ | with_reducible refine frR_sr ?_ | with_reducible exact frR_gd | with_reducible exact frR_gdZ | with_reducible refine frR_bn ?_ fun _ => ?_ | with_reducible refine frR_ite ?_ ?_ | omega
theorem fr_K_R_set_43 {x1 : Int32} {x2 : Int32} {x3 : Int32} : frR (K_R_set_43 x1 x2 x3) := by
  unfold K_R_set_43
  repeat' first | with_reducible exact frR_rt | with_reducible exact frR_rd | with_reducible exact frR_ld | with_reducible refine frR_wr ?_ | with_reducible refine frR_sr ?_ | with_reducible exact frR_gd | with_reducible exact frR_gdZ | with_reducible exact fr_K_R_set_70 | with_reducible refine frR_bn ?_ fun _ => ?_ | with_reducible refine frR_ite ?_ ?_ | omega
theorem fr_F_R_set {x1 : Int32} {x2 : Int32} {x3 : Int32} : frR (F_R_set x1 x2 x3) := by
  unfold F_R_set
  repeat' first | with_reducible exact frR_rt | with_reducible exact frR_rd | with_reducible exact frR_ld | with_reducible refine frR_wr ?_ | with_reducible refine frR_sr ?_ | with_reducible exact frR_gd | with_reducible exact frR_gdZ | with_reducible exact fr_F_R_canSet | with_reducible exact fr_K_R_set_43 | with_reducible refine frR_bn ?_ fun _ => ?_ | with_reducible refine frR_ite ?_ ?_ | omega
theorem fr_B_R_fewestGifts_4 {y : Int32 × Int32} : frR (B_R_fewestGifts_4 y) := by
  unfold B_R_fewestGifts_4
  repeat' first | with_reducible exact frR_rt | with_reducible exact frR_rd | with_reducible exact frR_ld | with_reducible refine frR_wr ?_ | with_reducible refine frR_sr ?_ | with_reducible exact frR_gd | with_reducible exact frR_gdZ | with_reducible refine frR_bn ?_ fun _ => ?_ | with_reducible refine frR_ite ?_ ?_ | omega
theorem fr_B_R_fewestGifts_47 {x1 : Int32} {x2 : Int32} {y : Int32 × Int32 × Int32} : frR (B_R_fewestGifts_47 x1 x2 y) := by
  unfold B_R_fewestGifts_47
  repeat' first | with_reducible exact frR_rt | with_reducible exact frR_rd | with_reducible exact frR_ld | with_reducible refine frR_wr ?_ | with_reducible refine frR_sr ?_ | with_reducible exact frR_gd | with_reducible exact frR_gdZ | with_reducible exact fr_F_R_has | with_reducible exact fr_F_R_greater | with_reducible refine frR_bn ?_ fun _ => ?_ | with_reducible refine frR_ite ?_ ?_ | omega
theorem fr_K_R_fewestGifts_108 {x1 : Int32} {x2 : Int32} {x3 : Int32} {x4 : Int32} : frR (K_R_fewestGifts_108 x1 x2 x3 x4) := by
  unfold K_R_fewestGifts_108
  repeat' first | with_reducible exact frR_rt | with_reducible exact frR_rd | with_reducible exact frR_ld | with_reducible refine frR_wr ?_ | with_reducible refine frR_sr ?_ | with_reducible exact frR_gd | with_reducible exact frR_gdZ | with_reducible refine frR_bn ?_ fun _ => ?_ | with_reducible refine frR_ite ?_ ?_ | omega
theorem fr_K_R_fewestGifts_47 {x1 : Int32} {x2 : Int32} {x3 : Int32} {x4 : Int32} {x5 : Int32} : frR (K_R_fewestGifts_47 x1 x2 x3 x4 x5) := by
  unfold K_R_fewestGifts_47
  repeat' first | with_reducible exact frR_rt | with_reducible exact frR_rd | with_reducible exact frR_ld | with_reducible refine frR_wr ?_ | with_reducible refine frR_sr ?_ | with_reducible exact frR_gd | with_reducible exact frR_gdZ | with_reducible exact fr_B_R_fewestGifts_47 | with_reducible exact fr_K_R_fewestGifts_108 | with_reducible refine frR_bn ?_ fun _ => ?_ | with_reducible refine frR_ite ?_ ?_ | with_reducible refine frR_lp fun _ => ?_ | omega
theorem fr_B_R_fewestGifts_33 {x1 : Int32} {y : Int32} : frR (B_R_fewestGifts_33 x1 y) := by
  unfold B_R_fewestGifts_33
  repeat' first | with_reducible exact frR_rt | with_reducible exact frR_rd | with_reducible exact frR_ld | with_reducible refine frR_wr ?_ | with_reducible refine frR_sr ?_ | with_reducible exact frR_gd | with_reducible exact frR_gdZ | with_reducible exact fr_K_R_fewestGifts_47 | with_reducible exact fr_F_R_onesOf | with_reducible refine frR_bn ?_ fun _ => ?_ | with_reducible refine frR_ite ?_ ?_ | omega
theorem fr_K_R_fewestGifts_33 {x1 : Int32} {x2 : Int32} : frR (K_R_fewestGifts_33 x1 x2) := by
  unfold K_R_fewestGifts_33
  repeat' first | with_reducible exact frR_rt | with_reducible exact frR_rd | with_reducible exact frR_ld | with_reducible refine frR_wr ?_ | with_reducible refine frR_sr ?_ | with_reducible exact frR_gd | with_reducible exact frR_gdZ | with_reducible exact fr_B_R_fewestGifts_33 | with_reducible refine frR_bn ?_ fun _ => ?_ | with_reducible refine frR_ite ?_ ?_ | with_reducible refine frR_lp fun _ => ?_ | omega
theorem fr_K_R_fewestGifts_31 {x1 : Int32} : frR (K_R_fewestGifts_31 x1) := by
  unfold K_R_fewestGifts_31
  repeat' first | with_reducible exact frR_rt | with_reducible exact frR_rd | with_reducible exact frR_ld | with_reducible refine frR_wr ?_ | with_reducible refine frR_sr ?_ | with_reducible exact frR_gd | with_reducible exact frR_gdZ | with_reducible exact fr_K_R_fewestGifts_33 | with_reducible refine frR_bn ?_ fun _ => ?_ | with_reducible refine frR_ite ?_ ?_ | omega
theorem fr_K_R_fewestGifts_4 {x1 : Int32} {x2 : Int32} : frR (K_R_fewestGifts_4 x1 x2) := by
  unfold K_R_fewestGifts_4
  repeat' first | with_reducible exact frR_rt | with_reducible exact frR_rd | with_reducible exact frR_ld | with_reducible refine frR_wr ?_ | with_reducible refine frR_sr ?_ | with_reducible exact frR_gd | with_reducible exact frR_gdZ | with_reducible exact fr_B_R_fewestGifts_4 | with_reducible exact fr_K_R_fewestGifts_31 | with_reducible refine frR_bn ?_ fun _ => ?_ | with_reducible refine frR_ite ?_ ?_ | with_reducible refine frR_lp fun _ => ?_ | omega
theorem fr_F_R_fewestGifts : frR F_R_fewestGifts := by
  unfold F_R_fewestGifts
  repeat' first | with_reducible exact frR_rt | with_reducible exact frR_rd | with_reducible exact frR_ld | with_reducible refine frR_wr ?_ | with_reducible refine frR_sr ?_ | with_reducible exact frR_gd | with_reducible exact frR_gdZ | with_reducible exact fr_K_R_fewestGifts_4 | with_reducible refine frR_bn ?_ fun _ => ?_ | with_reducible refine frR_ite ?_ ?_ | omega
theorem fr_F_R_settled {x1 : Int32} : frR (F_R_settled x1) := by
  unfold F_R_settled
  repeat' first | with_reducible exact frR_rt | with_reducible exact frR_rd | with_reducible exact frR_ld | with_reducible refine frR_wr ?_ | with_reducible refine frR_sr ?_ | with_reducible exact frR_gd | with_reducible exact frR_gdZ | with_reducible exact fr_F_R_isIn | with_reducible exact fr_F_R_fewestGifts | with_reducible refine frR_bn ?_ fun _ => ?_ | with_reducible refine frR_ite ?_ ?_ | omega
theorem fr_F_R_sighted {x1 : Int32} {x2 : Int32} : frR (F_R_sighted x1 x2) := by
  unfold F_R_sighted
  repeat' first | with_reducible exact frR_rt | with_reducible exact frR_rd | with_reducible exact frR_ld | with_reducible refine frR_wr ?_ | with_reducible refine frR_sr ?_ | with_reducible exact frR_gd | with_reducible exact frR_gdZ | with_reducible exact fr_F_R_isIn | with_reducible exact fr_F_R_isStreet | with_reducible refine frR_bn ?_ fun _ => ?_ | with_reducible refine frR_ite ?_ ?_ | omega
theorem fr_B_R_canSpeak_2 {x1 : Int32} {y : Int32} : frR (B_R_canSpeak_2 x1 y) := by
  unfold B_R_canSpeak_2
  repeat' first | with_reducible exact frR_rt | with_reducible exact frR_rd | with_reducible exact frR_ld | with_reducible refine frR_wr ?_ | with_reducible refine frR_sr ?_ | with_reducible exact frR_gd | with_reducible exact frR_gdZ | with_reducible exact fr_F_R_has | with_reducible refine frR_bn ?_ fun _ => ?_ | with_reducible refine frR_ite ?_ ?_ | omega
theorem fr_K_R_canSpeak_2 {x1 : Int32} {x2 : Int32} : frR (K_R_canSpeak_2 x1 x2) := by
  unfold K_R_canSpeak_2
  repeat' first | with_reducible exact frR_rt | with_reducible exact frR_rd | with_reducible exact frR_ld | with_reducible refine frR_wr ?_ | with_reducible refine frR_sr ?_ | with_reducible exact frR_gd | with_reducible exact frR_gdZ | with_reducible exact fr_B_R_canSpeak_2 | with_reducible refine frR_bn ?_ fun _ => ?_ | with_reducible refine frR_ite ?_ ?_ | with_reducible refine frR_lp fun _ => ?_ | omega
theorem fr_F_R_canSpeak {x1 : Int32} : frR (F_R_canSpeak x1) := by
  unfold F_R_canSpeak
  repeat' first | with_reducible exact frR_rt | with_reducible exact frR_rd | with_reducible exact frR_ld | with_reducible refine frR_wr ?_ | with_reducible refine frR_sr ?_ | with_reducible exact frR_gd | with_reducible exact frR_gdZ | with_reducible exact fr_K_R_canSpeak_2 | with_reducible refine frR_bn ?_ fun _ => ?_ | with_reducible refine frR_ite ?_ ?_ | omega
theorem fr_B_R_speakers_29 {x1 : Int32} {y : Int32 × Int32 × Int32 × Int32} : frR (B_R_speakers_29 x1 y) := by
  unfold B_R_speakers_29
  repeat' first | with_reducible exact frR_rt | with_reducible exact frR_rd | with_reducible exact frR_ld | with_reducible refine frR_wr ?_ | with_reducible refine frR_sr ?_ | with_reducible exact frR_gd | with_reducible exact frR_gdZ | with_reducible exact fr_F_R_canSpeak | with_reducible exact fr_F_R_onesOf | with_reducible exact fr_F_R_greater | with_reducible refine frR_bn ?_ fun _ => ?_ | with_reducible refine frR_ite ?_ ?_ | omega
theorem fr_K_R_speakers_78 {x1 : Int32} {x2 : Int32} {x3 : Int32} {x4 : Int32} : frR (K_R_speakers_78 x1 x2 x3 x4) := by
  unfold K_R_speakers_78
  repeat' first | with_reducible exact frR_rt | with_reducible exact frR_rd | with_reducible exact frR_ld | with_reducible refine frR_wr ?_ | with_reducible refine frR_sr ?_ | with_reducible exact frR_gd | with_reducible exact frR_gdZ | with_reducible refine frR_bn ?_ fun _ => ?_ | with_reducible refine frR_ite ?_ ?_ | omega
end FRM7
