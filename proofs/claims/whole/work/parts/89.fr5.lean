/-! what is left alone (printed by wip/tools/gen_fr.py) -/
section FRM5
theorem fr_B_R_bedOf_4 {x1 : Int32} {y : Int32 × Int32} : frR (B_R_bedOf_4 x1 y) := by
  unfold B_R_bedOf_4
  repeat' first | with_reducible exact frR_rt | with_reducible exact frR_rd | with_reducible exact frR_ld | with_reducible refine frR_wr ?_ | with_reducible refine frR_sr ?_ | with_reducible exact frR_gd | with_reducible exact frR_gdZ | with_reducible exact fr_K_R_bedOf_20 | with_reducible refine frR_bn ?_ fun _ => ?_ | with_reducible refine frR_ite ?_ ?_ | omega
theorem fr_K_R_bedOf_4 {x1 : Int32} {x2 : Int32} {x3 : Int32} : frR (K_R_bedOf_4 x1 x2 x3) := by
  unfold K_R_bedOf_4
  repeat' first | with_reducible exact frR_rt | with_reducible exact frR_rd | with_reducible exact frR_ld | with_reducible refine frR_wr ?_ | with_reducible refine frR_sr ?_ | with_reducible exact frR_gd | with_reducible exact frR_gdZ | with_reducible exact fr_B_R_bedOf_4 | with_reducible refine frR_bn ?_ fun _ => ?_ | with_reducible refine frR_ite ?_ ?_ | with_reducible refine frR_lp fun _ => ?_ | omega
theorem fr_F_R_bedOf {x1 : Int32} : frR (F_R_bedOf x1) := by
  unfold F_R_bedOf
  repeat' first | with_reducible exact frR_rt | with_reducible exact frR_rd | with_reducible exact frR_ld | with_reducible refine frR_wr ?_ | with_reducible refine frR_sr ?_ | with_reducible exact frR_gd | with_reducible exact frR_gdZ | with_reducible exact fr_K_R_bedOf_4 | with_reducible refine frR_bn ?_ fun _ => ?_ | with_reducible refine frR_ite ?_ ?_ | omega
theorem fr_F_R_greater {x1 : Int32} {x2 : Int32} : frR (F_R_greater x1 x2) := by
  unfold F_R_greater
  repeat' first | with_reducible exact frR_rt | with_reducible exact frR_rd | with_reducible exact frR_ld | with_reducible refine frR_wr ?_ | with_reducible refine frR_sr ?_ | with_reducible exact frR_gd | with_reducible exact frR_gdZ | with_reducible refine frR_bn ?_ fun _ => ?_ | with_reducible refine frR_ite ?_ ?_ | omega
theorem fr_B_R_findsBedded_2 {y : Int32} : frR (B_R_findsBedded_2 y) := by
  unfold B_R_findsBedded_2
  repeat' first | with_reducible exact frR_rt | with_reducible exact frR_rd | with_reducible exact frR_ld | with_reducible refine frR_wr ?_ | with_reducible refine frR_sr ?_ | with_reducible exact frR_gd | with_reducible exact frR_gdZ | with_reducible refine frR_bn ?_ fun _ => ?_ | with_reducible refine frR_ite ?_ ?_ | omega
theorem fr_B_R_findsBedded_72 {x1 : Int32} {x2 : Int32} {y : Int32 × Int32} : frR (B_R_findsBedded_72 x1 x2 y) := by
  unfold B_R_findsBedded_72
  repeat' first | with_reducible exact frR_rt | with_reducible exact frR_rd | with_reducible exact frR_ld | with_reducible refine frR_wr ?_ | with_reducible refine frR_sr ?_ | with_reducible exact frR_gd | with_reducible exact frR_gdZ | with_reducible exact fr_F_R_has | with_reducible exact fr_F_R_doesLie | with_reducible exact fr_F_R_greater | with_reducible refine frR_bn ?_ fun _ => ?_ | with_reducible refine frR_ite ?_ ?_ | omega
theorem fr_K_R_findsBedded_134 {x1 : Int32} {x2 : Int32} {x3 : Int32} : frR (K_R_findsBedded_134 x1 x2 x3) := by
  unfold K_R_findsBedded_134
  repeat' first | with_reducible exact frR_rt | with_reducible exact frR_rd | with_reducible exact frR_ld | with_reducible refine frR_wr ?_ | with_reducible refine frR_sr ?_ | with_reducible exact frR_gd | with_reducible exact frR_gdZ | with_reducible refine frR_bn ?_ fun _ => ?_ | with_reducible refine frR_ite ?_ ?_ | omega
theorem fr_K_R_findsBedded_72 {x1 : Int32} {x2 : Int32} {x3 : Int32} {x4 : Int32} : frR (K_R_findsBedded_72 x1 x2 x3 x4) := by
  unfold K_R_findsBedded_72
  repeat' first | with_reducible exact frR_rt | with_reducible exact frR_rd | with_reducible exact frR_ld | with_reducible refine frR_wr ?_ | with_reducible refine frR_sr ?_ | with_reducible exact frR_gd | with_reducible exact frR_gdZ | with_reducible exact fr_B_R_findsBedded_72 | with_reducible exact fr_K_R_findsBedded_134 | with_reducible refine frR_bn ?_ fun _ => ?_ | with_reducible refine frR_ite ?_ ?_ | with_reducible refine frR_lp fun _ => ?_ | omega
theorem fr_B_R_findsBedded_44 {x1 : Int32} {y : Int32} : frR (B_R_findsBedded_44 x1 y) := by
  unfold B_R_findsBedded_44
  repeat' first | with_reducible exact frR_rt | with_reducible exact frR_rd | with_reducible exact frR_ld | with_reducible refine frR_wr ?_ | with_reducible refine frR_sr ?_ | with_reducible exact frR_gd | with_reducible exact frR_gdZ | with_reducible exact fr_K_R_findsBedded_72 | with_reducible refine frR_bn ?_ fun _ => ?_ | with_reducible refine frR_ite ?_ ?_ | omega
theorem fr_K_R_findsBedded_153 {x1 : Int32} : frR (K_R_findsBedded_153 x1) := by
  unfold K_R_findsBedded_153
  repeat' first | with_reducible exact frR_rt | with_reducible exact frR_rd | with_reducible exact frR_ld | with_reducible refine frR_wr ?_ | with_reducible refine frR_sr ?_ | with_reducible exact frR_gd | with_reducible exact frR_gdZ | with_reducible refine frR_bn ?_ fun _ => ?_ | with_reducible refine frR_ite ?_ ?_ | omega
theorem fr_K_R_findsBedded_44 {x1 : Int32} {x2 : Int32} : frR (K_R_findsBedded_44 x1 x2) := by
  unfold K_R_findsBedded_44
  repeat' first | with_reducible exact frR_rt | with_reducible exact frR_rd | with_reducible exact frR_ld | with_reducible refine frR_wr ?_ | with_reducible refine frR_sr ?_ | with_reducible exact frR_gd | with_reducible exact frR_gdZ | with_reducible exact fr_B_R_findsBedded_44 | with_reducible exact fr_K_R_findsBedded_153 | with_reducible refine frR_bn ?_ fun _ => ?_ | with_reducible refine frR_ite ?_ ?_ | with_reducible refine frR_lp fun _ => ?_ | omega
theorem fr_B_R_findsBedded_38 {y : Int32} : frR (B_R_findsBedded_38 y) := by
  unfold B_R_findsBedded_38
  repeat' first | with_reducible exact frR_rt | with_reducible exact frR_rd | with_reducible exact frR_ld | with_reducible refine frR_wr ?_ | with_reducible refine frR_sr ?_ | with_reducible exact frR_gd | with_reducible exact frR_gdZ | with_reducible exact fr_K_R_findsBedded_44 | with_reducible refine frR_bn ?_ fun _ => ?_ | with_reducible refine frR_ite ?_ ?_ | omega
theorem fr_K_R_findsBedded_38 {x1 : Int32} : frR (K_R_findsBedded_38 x1) := by
  unfold K_R_findsBedded_38
  repeat' first | with_reducible exact frR_rt | with_reducible exact frR_rd | with_reducible exact frR_ld | with_reducible refine frR_wr ?_ | with_reducible refine frR_sr ?_ | with_reducible exact frR_gd | with_reducible exact frR_gdZ | with_reducible exact fr_B_R_findsBedded_38 | with_reducible refine frR_bn ?_ fun _ => ?_ | with_reducible refine frR_ite ?_ ?_ | with_reducible refine frR_lp fun _ => ?_ | omega
theorem fr_K_R_findsBedded_31 : frR K_R_findsBedded_31 := by
  unfold K_R_findsBedded_31
  repeat' first | with_reducible exact frR_rt | with_reducible exact frR_rd | with_reducible exact frR_ld | with_reducible refine frR_wr ?_ | with_reducible refine frR_sr ?_ | with_reducible exact frR_gd | with_reducible exact frR_gdZ | with_reducible exact fr_K_R_findsBedded_38 | with_reducible refine frR_bn ?_ fun _ => ?_ | with_reducible refine frR_ite ?_ ?_ | omega
theorem fr_K_R_findsBedded_2 {x1 : Int32} : frR (K_R_findsBedded_2 x1) := by
  unfold K_R_findsBedded_2
  repeat' first | with_reducible exact frR_rt | with_reducible exact frR_rd | with_reducible exact frR_ld | with_reducible refine frR_wr ?_ | with_reducible refine frR_sr ?_ | with_reducible exact frR_gd | with_reducible exact frR_gdZ | with_reducible exact fr_B_R_findsBedded_2 | with_reducible exact fr_K_R_findsBedded_31 | with_reducible refine frR_bn ?_ fun _ => ?_ | with_reducible refine frR_ite ?_ ?_ | with_reducible refine frR_lp fun _ => ?_ | omega
theorem fr_F_R_findsBedded : frR F_R_findsBedded := by
  unfold F_R_findsBedded
  repeat' first | with_reducible exact frR_rt | with_reducible exact frR_rd | with_reducible exact frR_ld | with_reducible refine frR_wr ?_ | with_reducible refine frR_sr ?_ | with_reducible exact frR_gd | with_reducible exact frR_gdZ | with_reducible exact fr_K_R_findsBedded_2 | with_reducible refine frR_bn ?_ fun _ => ?_ | with_reducible refine frR_ite ?_ ?_ | omega
theorem fr_K_R_beds_28 {x1 : Int32} : frR (K_R_beds_28 x1) := by
  unfold K_R_beds_28
  repeat' first | with_reducible exact frR_rt | with_reducible exact frR_rd | with_reducible exact frR_ld | with_reducible refine frR_wr ?_ | with_reducible refine frR_sr ?_ | with_reducible exact frR_gd | with_reducible exact frR_gdZ | with_reducible exact fr_F_R_findsBedded | with_reducible exact fr_F_R_bedOf | with_reducible refine frR_bn ?_ fun _ => ?_ | with_reducible refine frR_ite ?_ ?_ | omega
theorem fr_F_R_beds {x1 : Int32} : frR (F_R_beds x1) := by
  unfold F_R_beds
  repeat' first | with_reducible exact frR_rt | with_reducible exact frR_rd | with_reducible exact frR_ld | with_reducible refine frR_wr ?_ | with_reducible refine frR_sr ?_ | with_reducible exact frR_gd | with_reducible exact frR_gdZ | with_reducible exact fr_K_R_beds_28 | with_reducible exact fr_F_R_isIn | with_reducible refine frR_bn ?_ fun _ => ?_ | with_reducible refine frR_ite ?_ ?_ | omega
theorem fr_B_R_common_5 {y : Int32 × Int32} : frR (B_R_common_5 y) := by
  unfold B_R_common_5
  repeat' first | with_reducible exact frR_rt | with_reducible exact frR_rd | with_reducible exact frR_ld | with_reducible refine frR_wr ?_ | with_reducible refine frR_sr ?_ | with_reducible exact frR_gd | with_reducible exact frR_gdZ | with_reducible refine frR_bn ?_ fun _ => ?_ | with_reducible refine frR_ite ?_ ?_ | with_reducible refine frR_dvI ?_ | omega
theorem fr_K_R_common_5 {x3 : Int32} {x4 : Int32} : frR (K_R_common_5 x3 x4) := by
  unfold K_R_common_5
  repeat' first | with_reducible exact frR_rt | with_reducible exact frR_rd | with_reducible exact frR_ld | with_reducible refine frR_wr ?_ | with_reducible refine frR_sr ?_ | with_reducible exact frR_gd | with_reducible exact frR_gdZ | with_reducible exact fr_B_R_common_5 | with_reducible refine frR_bn ?_ fun _ => ?_ | with_reducible refine frR_ite ?_ ?_ | with_reducible refine frR_lp fun _ => ?_ | omega
theorem fr_F_R_common {x1 : Int32} {x2 : Int32} : frR (F_R_common x1 x2) := by
  unfold F_R_common
  repeat' first | with_reducible exact frR_rt | with_reducible exact frR_rd | with_reducible exact frR_ld | with_reducible refine frR_wr ?_ | with_reducible refine frR_sr ?_ | with_reducible exact frR_gd | with_reducible exact frR_gdZ | with_reducible exact fr_K_R_common_5 | with_reducible refine frR_bn ?_ fun _ => ?_ | with_reducible refine frR_ite ?_ ?_ | omega
theorem fr_K_R_birthdays_140 {x1 : Int32} {x2 : Int32} {x3 : Int32} {x4 : Int32} {x5 : Int32} {x6 : Int32} {x7 : Int32} {x8 : Int32} : frR (K_R_birthdays_140 x1 x2 x3 x4 x5 x6 x7 x8) := by
  unfold K_R_birthdays_140
  repeat' first | with_reducible exact frR_rt | with_reducible exact frR_rd | with_reducible exact frR_ld | with_reducible refine frR_wr ?_ | with_reducible refine frR_sr ?_ | with_reducible exact frR_gd | with_reducible exact frR_gdZ | with_reducible refine frR_bn ?_ fun _ => ?_ | with_reducible refine frR_ite ?_ ?_ | omega
theorem fr_K_R_birthdays_116 {x1 : Int32} {x2 : Int32} {x3 : Int32} {x4 : Int32} {x5 : Int32} {x6 : Int32} {x7 : Int32} {x8 : Int32} : frR (K_R_birthdays_116 x1 x2 x3 x4 x5 x6 x7 x8) := by
  unfold K_R_birthdays_116
  repeat' first | with_reducible exact frR_rt | with_reducible exact frR_rd | with_reducible exact frR_ld | with_reducible refine frR_wr ?_ | with_reducible refine frR_sr ?_ | with_reducible exact frR_gd | with_reducible exact frR_gdZ | with_reducible exact fr_F_R_common | with_reducible exact fr_K_R_birthdays_140 | with_reducible refine frR_bn ?_ fun _ => ?_ | with_reducible refine frR_ite ?_ ?_ | with_reducible refine frR_dvI ?_ | omega
theorem fr_K_R_birthdays_92 {x1 : Int32} {x2 : Int32} {x3 : Int32} {x4 : Int32} {x5 : Int32} {x6 : Int32} {x7 : Int32} {x8 : Int32} : frR (K_R_birthdays_92 x1 x2 x3 x4 x5 x6 x7 x8) := by
  unfold K_R_birthdays_92
  repeat' first | with_reducible exact frR_rt | with_reducible exact frR_rd | with_reducible exact frR_ld | with_reducible refine frR_wr ?_ | with_reducible refine frR_sr ?_ | with_reducible exact frR_gd | with_reducible exact frR_gdZ | with_reducible exact fr_F_R_common | with_reducible exact fr_K_R_birthdays_116 | with_reducible refine frR_bn ?_ fun _ => ?_ | with_reducible refine frR_ite ?_ ?_ | with_reducible refine frR_dvI ?_ | omega
theorem fr_B_R_birthdays_48 {x1 : Int32} {x2 : Int32} {x3 : Int32} {y : Int32 × Int32 × Int32} : frR (B_R_birthdays_48 x1 x2 x3 y) := by
  unfold B_R_birthdays_48
  repeat' first | with_reducible exact frR_rt | with_reducible exact frR_rd | with_reducible exact frR_ld | with_reducible refine frR_wr ?_ | with_reducible refine frR_sr ?_ | with_reducible exact frR_gd | with_reducible exact frR_gdZ | with_reducible exact fr_F_R_greater | with_reducible exact fr_F_R_common | with_reducible exact fr_K_R_birthdays_92 | with_reducible refine frR_bn ?_ fun _ => ?_ | with_reducible refine frR_ite ?_ ?_ | with_reducible refine frR_dvI ?_ | omega
theorem fr_K_R_birthdays_160 {x3 : Int32} {x4 : Int32} {x5 : Int32} : frR (K_R_birthdays_160 x3 x4 x5) := by
  unfold K_R_birthdays_160
  repeat' first | with_reducible exact frR_rt | with_reducible exact frR_rd | with_reducible exact frR_ld | with_reducible refine frR_wr ?_ | with_reducible refine frR_sr ?_ | with_reducible exact frR_gd | with_reducible exact frR_gdZ | with_reducible refine frR_bn ?_ fun _ => ?_ | with_reducible refine frR_ite ?_ ?_ | omega
theorem fr_K_R_birthdays_48 {x1 : Int32} {x2 : Int32} {x3 : Int32} {x4 : Int32} {x5 : Int32} {x6 : Int32} : frR (K_R_birthdays_48 x1 x2 x3 x4 x5 x6) := by
  unfold K_R_birthdays_48
  repeat' first | with_reducible exact frR_rt | with_reducible exact frR_rd | with_reducible exact frR_ld | with_reducible refine frR_wr ?_ | with_reducible refine frR_sr ?_ | with_reducible exact frR_gd | with_reducible exact frR_gdZ | with_reducible exact fr_B_R_birthdays_48 | with_reducible exact fr_K_R_birthdays_160 | with_reducible refine frR_bn ?_ fun _ => ?_ | with_reducible refine frR_ite ?_ ?_ | with_reducible refine frR_lp fun _ => ?_ | omega
theorem fr_F_R_birthdays {x1 : Int32} {x2 : Int32} {x3 : Int32} : frR (F_R_birthdays x1 x2 x3) := by
  unfold F_R_birthdays
  repeat' first | with_reducible exact frR_rt | with_reducible exact frR_rd | with_reducible exact frR_ld | with_reducible refine frR_wr ?_ | with_reducible refine frR_sr ?_ | with_reducible exact frR_gd | with_reducible exact frR_gdZ | with_reducible exact fr_F_R_isIn | with_reducible exact fr_K_R_birthdays_48 | with_reducible refine frR_bn ?_ fun _ => ?_ | with_reducible refine frR_ite ?_ ?_ | omega
theorem fr_F_R_book {x1 : Int32} {x2 : Int32} : frR (F_R_book x1 x2) := by
  unfold F_R_book
  repeat' first | with_reducible exact frR_rt | with_reducible exact frR_rd | with_reducible exact frR_ld | with_reducible refine frR_wr ?_ | with_reducible refine frR_sr ?_ | with_reducible exact frR_gd | with_reducible exact frR_gdZ | with_reducible exact fr_F_R_isIn | with_reducible refine frR_bn ?_ fun _ => ?_ | with_reducible refine frR_ite ?_ ?_ | omega
theorem fr_F_R_boot {x1 : Int32} : frR (F_R_boot x1) := by
  unfold F_R_boot
  repeat' first | with_reducible exact frR_rt | with_reducible exact frR_rd | with_reducible exact frR_ld | with_reducible refine frR_wr ?_ | with_reducible refine frR_sr ?_ | with_reducible exact frR_gd | with_reducible exact frR_gdZ | with_reducible exact fr_F_R_isIn | with_reducible refine frR_bn ?_ fun _ => ?_ | with_reducible refine frR_ite ?_ ?_ | omega
theorem fr_F_R_box {x1 : Int32} : frR (F_R_box x1) := by
  unfold F_R_box
  repeat' first | with_reducible exact frR_rt | with_reducible exact frR_rd | with_reducible exact frR_ld | with_reducible refine frR_wr ?_ | with_reducible refine frR_sr ?_ | with_reducible exact frR_gd | with_reducible exact frR_gdZ | with_reducible exact fr_F_R_isIn | with_reducible refine frR_bn ?_ fun _ => ?_ | with_reducible refine frR_ite ?_ ?_ | omega
theorem fr_F_R_end {x1 : Int32} : frR (F_R_end x1) := by
  unfold F_R_end
  repeat' first | with_reducible exact frR_rt | with_reducible exact frR_rd | with_reducible exact frR_ld | with_reducible refine frR_wr ?_ | with_reducible refine frR_sr ?_ | with_reducible exact frR_gd | with_reducible exact frR_gdZ | with_reducible exact fr_F_R_isIn | with_reducible refine frR_bn ?_ fun _ => ?_ | with_reducible refine frR_ite ?_ ?_ | omega
theorem fr_F_R_fault {x1 : Int32} : frR (F_R_fault x1) := by
  unfold F_R_fault
  repeat' first | with_reducible exact frR_rt | with_reducible exact frR_rd | with_reducible exact frR_ld | with_reducible refine frR_wr ?_ | with_reducible refine frR_sr ?_ | with_reducible exact frR_gd | with_reducible exact frR_gdZ | with_reducible refine frR_bn ?_ fun _ => ?_ | with_reducible refine frR_ite ?_ ?_ | omega
theorem fr_B_R_types_3 {x1 : Int32} {y : Int32} : frR (B_R_types_3 x1 y) := by
  unfold B_R_types_3
  repeat' first | with_reducible exact frR_rt | with_reducible exact frR_rd | with_reducible exact frR_ld | with_reducible refine frR_wr ?_ | with_reducible refine frR_sr ?_ | with_reducible exact frR_gd | with_reducible exact frR_gdZ | with_reducible refine frR_bn ?_ fun _ => ?_ | with_reducible refine frR_ite ?_ ?_ | omega
theorem fr_K_R_types_3 {x1 : Int32} {x2 : Int32} : frR (K_R_types_3 x1 x2) := by
  unfold K_R_types_3
  repeat' first | with_reducible exact frR_rt | with_reducible exact frR_rd | with_reducible exact frR_ld | with_reducible refine frR_wr ?_ | with_reducible refine frR_sr ?_ | with_reducible exact frR_gd | with_reducible exact frR_gdZ | with_reducible exact fr_B_R_types_3 | with_reducible refine frR_bn ?_ fun _ => ?_ | with_reducible refine frR_ite ?_ ?_ | with_reducible refine frR_lp fun _ => ?_ | omega
theorem fr_F_R_types {x1 : Int32} : frR (F_R_types x1) := by
  unfold F_R_types
  repeat' first | with_reducible exact frR_rt | with_reducible exact frR_rd | with_reducible exact frR_ld | with_reducible refine frR_wr ?_ | with_reducible refine frR_sr ?_ | with_reducible exact frR_gd | with_reducible exact frR_gdZ | with_reducible exact fr_K_R_types_3 | with_reducible refine frR_bn ?_ fun _ => ?_ | with_reducible refine frR_ite ?_ ?_ | omega
theorem fr_F_R_feed {x1 : Int32} {x2 : Int32} {x3 : Int32} {x4 : Int32} {x5 : Int32} : frR (F_R_feed x1 x2 x3 x4 x5) := by
  unfold F_R_feed
  repeat' first | with_reducible exact frR_rt | with_reducible exact frR_rd | with_reducible exact frR_ld | with_reducible refine frR_wr ?_ | with_reducible refine frR_sr ?_ | with_reducible exact frR_gd | with_reducible exact frR_gdZ | with_reducible exact fr_F_R_types | with_reducible refine frR_bn ?_ fun _ => ?_ | with_reducible refine frR_ite ?_ ?_ | omega
theorem fr_F_R_leaves {x1 : Int32} {x2 : Int32} {x3 : Int32} {x4 : Int32} : frR (F_R_leaves x1 x2 x3 x4) := by
  unfold F_R_leaves
  repeat' first | with_reducible exact frR_rt | with_reducible exact frR_rd | with_reducible exact frR_ld | with_reducible refine frR_wr ?_ | with_reducible refine frR_sr ?_ | with_reducible exact frR_gd | with_reducible exact frR_gdZ | with_reducible refine frR_bn ?_ fun _ => ?_ | with_reducible refine frR_ite ?_ ?_ | omega
theorem fr_B_R_goodTaking_2 {x1 : Int32} {x2 : Int32} {y : Int32} : frR (B_R_goodTaking_2 x1 x2 y) := by
  unfold B_R_goodTaking_2
  repeat' first | with_reducible exact frR_rt | with_reducible exact frR_rd | with_reducible exact frR_ld | with_reducible refine frR_wr ?_ | with_reducible refine frR_sr ?_ | with_reducible exact frR_gd | with_reducible exact frR_gdZ | with_reducible exact fr_F_R_leaves | with_reducible refine frR_bn ?_ fun _ => ?_ | with_reducible refine frR_ite ?_ ?_ | with_reducible refine frR_dvI ?_ | omega
theorem fr_K_R_goodTaking_2 {x1 : Int32} {x2 : Int32} {x3 : Int32} : frR (K_R_goodTaking_2 x1 x2 x3) := by
  unfold K_R_goodTaking_2
  repeat' first | with_reducible exact frR_rt | with_reducible exact frR_rd | with_reducible exact frR_ld | with_reducible refine frR_wr ?_ | with_reducible refine frR_sr ?_ | with_reducible exact frR_gd | with_reducible exact frR_gdZ | with_reducible exact fr_B_R_goodTaking_2 | with_reducible refine frR_bn ?_ fun _ => ?_ | with_reducible refine frR_ite ?_ ?_ | with_reducible refine frR_lp fun _ => ?_ | omega
theorem fr_F_R_goodTaking {x1 : Int32} {x2 : Int32} : frR (F_R_goodTaking x1 x2) := by
  unfold F_R_goodTaking
  repeat' first | with_reducible exact frR_rt | with_reducible exact frR_rd | with_reducible exact frR_ld | with_reducible refine frR_wr ?_ | with_reducible refine frR_sr ?_ | with_reducible exact frR_gd | with_reducible exact frR_gdZ | with_reducible exact fr_K_R_goodTaking_2 | with_reducible refine frR_bn ?_ fun _ => ?_ | with_reducible refine frR_ite ?_ ?_ | omega
theorem fr_B_R_game_51 {x1 : Int32} {x2 : Int32} {x3 : Int32} {x4 : Int32} {y : Int32} : frR (B_R_game_51 x1 x2 x3 x4 y) := by
  unfold B_R_game_51
  repeat' first | with_reducible exact frR_rt | with_reducible exact frR_rd | with_reducible exact frR_ld | with_reducible refine frR_wr ?_ | with_reducible refine frR_sr ?_ | with_reducible exact frR_gd | with_reducible exact frR_gdZ | with_reducible exact fr_F_R_goodTaking | with_reducible refine frR_bn ?_ fun _ => ?_ | with_reducible refine frR_ite ?_ ?_ | omega
theorem fr_K_R_game_93 {x1 : Int32} {x2 : Int32} {x3 : Int32} {x4 : Int32} : frR (K_R_game_93 x1 x2 x3 x4) := by
  unfold K_R_game_93
  repeat' first | with_reducible exact frR_rt | with_reducible exact frR_rd | with_reducible exact frR_ld | with_reducible refine frR_wr ?_ | with_reducible refine frR_sr ?_ | with_reducible exact frR_gd | with_reducible exact frR_gdZ | with_reducible refine frR_bn ?_ fun _ => ?_ | with_reducible refine frR_ite ?_ ?_ | omega
theorem fr_K_R_game_51 {x1 : Int32} {x2 : Int32} {x3 : Int32} {x4 : Int32} {x5 : Int32} : frR (K_R_game_51 x1 x2 x3 x4 x5) := by
  unfold K_R_game_51
  repeat' first | with_reducible exact frR_rt | with_reducible exact frR_rd | with_reducible exact frR_ld | with_reducible refine frR_wr ?_ | with_reducible refine frR_sr ?_ | with_reducible exact frR_gd | with_reducible exact frR_gdZ | with_reducible exact fr_B_R_game_51 | with_reducible exact fr_K_R_game_93 | with_reducible refine frR_bn ?_ fun _ => ?_ | with_reducible refine frR_ite ?_ ?_ | with_reducible refine frR_lp fun _ => ?_ | omega
theorem fr_B_R_game_42 {x1 : Int32} {x2 : Int32} {x3 : Int32} {y : Int32} : frR (B_R_game_42 x1 x2 x3 y) := by
  unfold B_R_game_42
  repeat' first | with_reducible exact frR_rt | with_reducible exact frR_rd | with_reducible exact frR_ld | with_reducible refine frR_wr ?_ | with_reducible refine frR_sr ?_ | with_reducible exact frR_gd | with_reducible exact frR_gdZ | with_reducible exact fr_K_R_game_51 | with_reducible refine frR_bn ?_ fun _ => ?_ | with_reducible refine frR_ite ?_ ?_ | omega
theorem fr_K_R_game_99 {x1 : Int32} {x2 : Int32} {x3 : Int32} : frR (K_R_game_99 x1 x2 x3) := by
  unfold K_R_game_99
  repeat' first | with_reducible exact frR_rt | with_reducible exact frR_rd | with_reducible exact frR_ld | with_reducible refine frR_wr ?_ | with_reducible refine frR_sr ?_ | with_reducible exact frR_gd | with_reducible exact frR_gdZ | with_reducible exact fr_F_R_goodTaking | with_reducible refine frR_bn ?_ fun _ => ?_ | with_reducible refine frR_ite ?_ ?_ | with_reducible refine frR_dvI ?_ | omega
theorem fr_K_R_game_42 {x1 : Int32} {x2 : Int32} {x3 : Int32} {x4 : Int32} : frR (K_R_game_42 x1 x2 x3 x4) := by
  unfold K_R_game_42
  repeat' first | with_reducible exact frR_rt | with_reducible exact frR_rd | with_reducible exact frR_ld | with_reducible refine frR_wr ?_ | with_reducible refine frR_sr ?_ | with_reducible exact frR_gd | with_reducible exact frR_gdZ | with_reducible exact fr_B_R_game_42 | with_reducible exact fr_K_R_game_99 | with_reducible refine frR_bn ?_ fun _ => ?_ | with_reducible refine frR_ite ?_ ?_ | with_reducible refine frR_lp fun _ => ?_ | omega
theorem fr_F_R_game {x1 : Int32} {x2 : Int32} {x3 : Int32} : frR (F_R_game x1 x2 x3) := by
  unfold F_R_game
  repeat' first | with_reducible exact frR_rt | with_reducible exact frR_rd | with_reducible exact frR_ld | with_reducible refine frR_wr ?_ | with_reducible refine frR_sr ?_ | with_reducible exact frR_gd | with_reducible exact frR_gdZ | with_reducible exact fr_F_R_isIn | with_reducible exact fr_K_R_game_42 | with_reducible refine frR_bn ?_ fun _ => ?_ | with_reducible refine frR_ite ?_ ?_ | omega
theorem fr_B_R_endsThought_2 {y : Int32} : frR (B_R_endsThought_2 y) := by
  unfold B_R_endsThought_2
  repeat' first | with_reducible exact frR_rt | with_reducible exact frR_rd | with_reducible exact frR_ld | with_reducible refine frR_wr ?_ | with_reducible refine frR_sr ?_ | with_reducible exact frR_gd | with_reducible exact frR_gdZ | with_reducible refine frR_wrZ ?_ | with_reducible refine frR_bn ?_ fun _ => ?_ | with_reducible refine frR_ite ?_ ?_ | omega
theorem fr_K_R_endsThought_2 {x1 : Int32} : frR (K_R_endsThought_2 x1) := by
  unfold K_R_endsThought_2
  repeat' first | with_reducible exact frR_rt | with_reducible exact frR_rd | with_reducible exact frR_ld | with_reducible refine frR_wr ?_ | with_reducible refine frR_sr ?_ | with_reducible exact frR_gd | with_reducible exact frR_gdZ | with_reducible exact fr_B_R_endsThought_2 | with_reducible refine frR_bn ?_ fun _ => ?_ | with_reducible refine frR_ite ?_ ?_ | with_reducible refine frR_lp fun _ => ?_ | omega
theorem fr_F_R_endsThought : frR F_R_endsThought := by
  unfold F_R_endsThought
  repeat' first | with_reducible exact frR_rt | with_reducible exact frR_rd | with_reducible exact frR_ld | with_reducible refine frR_wr ?_ | with_reducible refine frR_sr ?_ | with_reducible exact frR_gd | with_reducible exact frR_gdZ | with_reducible exact fr_K_R_endsThought_2 | with_reducible refine frR_bn ?_ fun _ => ?_ | with_reducible refine frR_ite ?_ ?_ | omega
theorem fr_B_R_bySharesOf_4 {x1 : Int32} {y : Int32 × Int32} : frR (B_R_bySharesOf_4 x1 y) := by
  unfold B_R_bySharesOf_4
  repeat' first | with_reducible exact frR_rt | with_reducible exact frR_rd | with_reducible exact frR_ld | with_reducible refine frR_wr ?_ | with_reducible refine frR_sr ?_ | with_reducible exact frR_gd | with_reducible exact frR_gdZ | with_reducible exact fr_F_R_isIn | with_reducible exact fr_F_R_goesOut | with_reducible refine frR_bn ?_ fun _ => ?_ | with_reducible refine frR_ite ?_ ?_ | omega
theorem fr_K_R_bySharesOf_82 {x1 : Int32} {x2 : Int32} : frR (K_R_bySharesOf_82 x1 x2) := by
  unfold K_R_bySharesOf_82
  repeat' first | with_reducible exact frR_rt | with_reducible exact frR_rd | with_reducible exact frR_ld | with_reducible refine frR_wr ?_ | with_reducible refine frR_sr ?_ | with_reducible exact frR_gd | with_reducible exact frR_gdZ | with_reducible exact fr_F_R_goesHome | with_reducible refine frR_bn ?_ fun _ => ?_ | with_reducible refine frR_ite ?_ ?_ | omega
theorem fr_K_R_bySharesOf_4 {x1 : Int32} {x2 : Int32} {x3 : Int32} : frR (K_R_bySharesOf_4 x1 x2 x3) := by
  unfold K_R_bySharesOf_4
  repeat' first | with_reducible exact frR_rt | with_reducible exact frR_rd | with_reducible exact frR_ld | with_reducible refine frR_wr ?_ | with_reducible refine frR_sr ?_ | with_reducible exact frR_gd | with_reducible exact frR_gdZ | with_reducible exact fr_B_R_bySharesOf_4 | with_reducible exact fr_K_R_bySharesOf_82 | with_reducible refine frR_bn ?_ fun _ => ?_ | with_reducible refine frR_ite ?_ ?_ | with_reducible refine frR_lp fun _ => ?_ | split | omega
theorem fr_F_R_bySharesOf {x1 : Int32} : frR (F_R_bySharesOf x1) := by
  unfold F_R_bySharesOf
  repeat' first | with_reducible exact frR_rt | with_reducible exact frR_rd | with_reducible exact frR_ld | with_reducible refine frR_wr ?_ | with_reducible refine frR_sr ?_ | with_reducible exact frR_gd | with_reducible exact frR_gdZ | with_reducible exact fr_K_R_bySharesOf_4 | with_reducible refine frR_bn ?_ fun _ => ?_ | with_reducible refine frR_ite ?_ ?_ | omega
theorem fr_B_R_cousinsOf_4 {x1 : Int32} {y : Int32 × Int32} : frR (B_R_cousinsOf_4 x1 y) := by
  unfold B_R_cousinsOf_4
  repeat' first | with_reducible exact frR_rt | with_reducible exact frR_rd | with_reducible exact frR_ld | with_reducible refine frR_wr ?_ | with_reducible refine frR_sr ?_ | with_reducible exact frR_gd | with_reducible exact frR_gdZ | with_reducible exact fr_F_R_isOut | with_reducible refine frR_bn ?_ fun _ => ?_ | with_reducible refine frR_ite ?_ ?_ | omega
theorem fr_B_R_cousinsOf_60 {x1 : Int32} {x2 : Int32} {y : Int32} : frR (B_R_cousinsOf_60 x1 x2 y) := by
  unfold B_R_cousinsOf_60
  repeat' first | with_reducible exact frR_rt | with_reducible exact frR_rd | with_reducible exact frR_ld | with_reducible refine frR_wr ?_ | with_reducible refine frR_sr ?_ | with_reducible exact frR_gd | with_reducible exact frR_gdZ | with_reducible exact fr_F_R_isOut | with_reducible exact fr_F_R_writes | with_reducible refine frR_bn ?_ fun _ => ?_ | with_reducible refine frR_ite ?_ ?_ | omega
theorem fr_K_R_cousinsOf_60 {x1 : Int32} {x2 : Int32} {x3 : Int32} : frR (K_R_cousinsOf_60 x1 x2 x3) := by
  unfold K_R_cousinsOf_60
  repeat' first | with_reducible exact frR_rt | with_reducible exact frR_rd | with_reducible exact frR_ld | with_reducible refine frR_wr ?_ | with_reducible refine frR_sr ?_ | with_reducible exact frR_gd | with_reducible exact frR_gdZ | with_reducible exact fr_B_R_cousinsOf_60 | with_reducible refine frR_bn ?_ fun _ => ?_ | with_reducible refine frR_ite ?_ ?_ | with_reducible refine frR_lp fun _ => ?_ | omega
theorem fr_K_R_cousinsOf_58 {x1 : Int32} {x2 : Int32} : frR (K_R_cousinsOf_58 x1 x2) := by
  unfold K_R_cousinsOf_58
  repeat' first | with_reducible exact frR_rt | with_reducible exact frR_rd | with_reducible exact frR_ld | with_reducible refine frR_wr ?_ | with_reducible refine frR_sr ?_ | with_reducible exact frR_gd | with_reducible exact frR_gdZ | with_reducible exact fr_K_R_cousinsOf_60 | with_reducible refine frR_bn ?_ fun _ => ?_ | with_reducible refine frR_ite ?_ ?_ | omega
theorem fr_K_R_cousinsOf_4 {x1 : Int32} {x2 : Int32} {x3 : Int32} : frR (K_R_cousinsOf_4 x1 x2 x3) := by
  unfold K_R_cousinsOf_4
  repeat' first | with_reducible exact frR_rt | with_reducible exact frR_rd | with_reducible exact frR_ld | with_reducible refine frR_wr ?_ | with_reducible refine frR_sr ?_ | with_reducible exact frR_gd | with_reducible exact frR_gdZ | with_reducible exact fr_B_R_cousinsOf_4 | with_reducible exact fr_K_R_cousinsOf_58 | with_reducible refine frR_bn ?_ fun _ => ?_ | with_reducible refine frR_ite ?_ ?_ | with_reducible refine frR_lp fun _ => ?_ | omega
theorem fr_F_R_cousinsOf {x1 : Int32} : frR (F_R_cousinsOf x1) := by
  unfold F_R_cousinsOf
  repeat' first | with_reducible exact frR_rt | with_reducible exact frR_rd | with_reducible exact frR_ld | with_reducible refine frR_wr ?_ | with_reducible refine frR_sr ?_ | with_reducible exact frR_gd | with_reducible exact frR_gdZ | with_reducible exact fr_K_R_cousinsOf_4 | with_reducible refine frR_bn ?_ fun _ => ?_ | with_reducible refine frR_ite ?_ ?_ | omega
theorem fr_K_R_does_80 {x2 : Int32} {x3 : Int32} {x4 : Int32} : frR (K_R_does_80 x2 x3 x4) := by
  unfold K_R_does_80
  repeat' first | with_reducible exact frR_rt | with_reducible exact frR_rd | with_reducible exact frR_ld | with_reducible refine frR_wr ?_ | with_reducible refine frR_sr ?_ | with_reducible exact frR_gd | with_reducible exact frR_gdZ | with_reducible exact fr_F_R_goesHome | with_reducible refine frR_bn ?_ fun _ => ?_ | with_reducible refine frR_ite ?_ ?_ | omega
theorem fr_K_R_does_47 {x2 : Int32} {x3 : Int32} {x4 : Int32} : frR (K_R_does_47 x2 x3 x4) := by
  unfold K_R_does_47
  repeat' first | with_reducible exact frR_rt | with_reducible exact frR_rd | with_reducible exact frR_ld | with_reducible refine frR_wr ?_ | with_reducible refine frR_sr ?_ | with_reducible exact frR_gd | with_reducible exact frR_gdZ | with_reducible exact fr_F_R_lesser | with_reducible exact fr_K_R_does_80 | with_reducible refine frR_bn ?_ fun _ => ?_ | with_reducible refine frR_ite ?_ ?_ | omega
theorem fr_F_R_does {x1 : Int32} : frR (F_R_does x1) := by
  unfold F_R_does
  repeat' first | with_reducible exact frR_rt | with_reducible exact frR_rd | with_reducible exact frR_ld | with_reducible refine frR_wr ?_ | with_reducible refine frR_sr ?_ | with_reducible exact frR_gd | with_reducible exact frR_gdZ | with_reducible exact fr_F_R_isStruck | with_reducible exact fr_F_R_goesOut | with_reducible exact fr_K_R_does_47 | with_reducible refine frR_bn ?_ fun _ => ?_ | with_reducible refine frR_ite ?_ ?_ | omega
theorem fr_B_R_othersBy_4 {x1 : Int32} {y : Int32 × Int32} : frR (B_R_othersBy_4 x1 y) := by
  unfold B_R_othersBy_4
  repeat' first | with_reducible exact frR_rt | with_reducible exact frR_rd | with_reducible exact frR_ld | with_reducible refine frR_wr ?_ | with_reducible refine frR_sr ?_ | with_reducible exact frR_gd | with_reducible exact frR_gdZ | with_reducible exact fr_F_R_isOut | with_reducible refine frR_bn ?_ fun _ => ?_ | with_reducible refine frR_ite ?_ ?_ | omega
theorem fr_K_R_othersBy_4 {x1 : Int32} {x2 : Int32} {x3 : Int32} : frR (K_R_othersBy_4 x1 x2 x3) := by
  unfold K_R_othersBy_4
  repeat' first | with_reducible exact frR_rt | with_reducible exact frR_rd | with_reducible exact frR_ld | with_reducible refine frR_wr ?_ | with_reducible refine frR_sr ?_ | with_reducible exact frR_gd | with_reducible exact frR_gdZ | with_reducible exact fr_B_R_othersBy_4 | with_reducible refine frR_bn ?_ fun _ => ?_ | with_reducible refine frR_ite ?_ ?_ | with_reducible refine frR_lp fun _ => ?_ | omega
theorem fr_F_R_othersBy {x1 : Int32} : frR (F_R_othersBy x1) := by
  unfold F_R_othersBy
  repeat' first | with_reducible exact frR_rt | with_reducible exact frR_rd | with_reducible exact frR_ld | with_reducible refine frR_wr ?_ | with_reducible refine frR_sr ?_ | with_reducible exact frR_gd | with_reducible exact frR_gdZ | with_reducible exact fr_K_R_othersBy_4 | with_reducible refine frR_bn ?_ fun _ => ?_ | with_reducible refine frR_ite ?_ ?_ | omega
theorem fr_F_R_asks {x1 : Int32} : frR (F_R_asks x1) := by
  unfold F_R_asks
  repeat' first | with_reducible exact frR_rt | with_reducible exact frR_rd | with_reducible exact frR_ld | with_reducible refine frR_wr ?_ | with_reducible refine frR_sr ?_ | with_reducible exact frR_gd | with_reducible exact frR_gdZ | with_reducible exact fr_F_R_othersBy | with_reducible refine frR_bn ?_ fun _ => ?_ | with_reducible refine frR_ite ?_ ?_ | omega
theorem fr_F_R_held {x1 : Int32} {x2 : Int32} {x3 : Int32} : frR (F_R_held x1 x2 x3) := by
  unfold F_R_held
  repeat' first | with_reducible exact frR_rt | with_reducible exact frR_rd | with_reducible exact frR_ld | with_reducible refine frR_wr ?_ | with_reducible refine frR_sr ?_ | with_reducible exact frR_gd | with_reducible exact frR_gdZ | with_reducible refine frR_bn ?_ fun _ => ?_ | with_reducible refine frR_ite ?_ ?_ | omega
theorem fr_F_R_twoOf {x1 : Int32} {x2 : Int32} {x3 : Int32} : frR (F_R_twoOf x1 x2 x3) := by
  unfold F_R_twoOf
  repeat' first | with_reducible exact frR_rt | with_reducible exact frR_rd | with_reducible exact frR_ld | with_reducible refine frR_wr ?_ | with_reducible refine frR_sr ?_ | with_reducible exact frR_gd | with_reducible exact frR_gdZ | with_reducible refine frR_bn ?_ fun _ => ?_ | with_reducible refine frR_ite ?_ ?_ | with_reducible refine frR_dvI ?_ | omega
theorem fr_K_R_runs_45 {x1 : Int32} {x3 : Int32} {x4 : Int32} {x5 : Int32} : frR (K_R_runs_45 x1 x3 x4 x5) := by
  unfold K_R_runs_45
  repeat' first | with_reducible exact frR_rt | with_reducible exact frR_rd | with_reducible exact frR_ld | with_reducible refine frR_wr ?_ | with_reducible refine frR_sr ?_ | with_reducible exact frR_gd | with_reducible exact frR_gdZ | with_reducible refine frR_bn ?_ fun _ => ?_ | with_reducible refine frR_ite ?_ ?_ | omega
theorem fr_B_R_runs_12 {x1 : Int32} {x3 : Int32} {y : Int32 × Int32} : frR (B_R_runs_12 x1 x3 y) := by
  unfold B_R_runs_12
  repeat' first | with_reducible exact frR_rt | with_reducible exact frR_rd | with_reducible exact frR_ld | with_reducible refine frR_wr ?_ | with_reducible refine frR_sr ?_ | with_reducible exact frR_gd | with_reducible exact frR_gdZ | with_reducible exact fr_K_R_runs_45 | with_reducible exact fr_F_R_twoOf | with_reducible refine frR_bn ?_ fun _ => ?_ | with_reducible refine frR_ite ?_ ?_ | omega
theorem fr_K_R_runs_12 {x1 : Int32} {x3 : Int32} {x4 : Int32} {x5 : Int32} : frR (K_R_runs_12 x1 x3 x4 x5) := by
  unfold K_R_runs_12
  repeat' first | with_reducible exact frR_rt | with_reducible exact frR_rd | with_reducible exact frR_ld | with_reducible refine frR_wr ?_ | with_reducible refine frR_sr ?_ | with_reducible exact frR_gd | with_reducible exact frR_gdZ | with_reducible exact fr_B_R_runs_12 | with_reducible refine frR_bn ?_ fun _ => ?_ | with_reducible refine frR_ite ?_ ?_ | with_reducible refine frR_lp fun _ => ?_ | omega
theorem fr_F_R_runs {x1 : Int32} {x2 : Int32} {x3 : Int32} : frR (F_R_runs x1 x2 x3) := by
  unfold F_R_runs
  repeat' first | with_reducible exact frR_rt | with_reducible exact frR_rd | with_reducible exact frR_ld | with_reducible refine frR_wr ?_ | with_reducible refine frR_sr ?_ | with_reducible exact frR_gd | with_reducible exact frR_gdZ | with_reducible exact fr_K_R_runs_12 | with_reducible refine frR_bn ?_ fun _ => ?_ | with_reducible refine frR_ite ?_ ?_ | omega
theorem fr_B_R_lineOf_2 {x1 : Int32} {y : Int32} : frR (B_R_lineOf_2 x1 y) := by
  unfold B_R_lineOf_2
  repeat' first | with_reducible exact frR_rt | with_reducible exact frR_rd | with_reducible exact frR_ld | with_reducible refine frR_wr ?_ | with_reducible refine frR_sr ?_ | with_reducible exact frR_gd | with_reducible exact frR_gdZ | with_reducible exact fr_F_R_runs | with_reducible refine frR_bn ?_ fun _ => ?_ | with_reducible refine frR_ite ?_ ?_ | omega
theorem fr_K_R_lineOf_2 {x1 : Int32} {x2 : Int32} : frR (K_R_lineOf_2 x1 x2) := by
  unfold K_R_lineOf_2
  repeat' first | with_reducible exact frR_rt | with_reducible exact frR_rd | with_reducible exact frR_ld | with_reducible refine frR_wr ?_ | with_reducible refine frR_sr ?_ | with_reducible exact frR_gd | with_reducible exact frR_gdZ | with_reducible exact fr_B_R_lineOf_2 | with_reducible refine frR_bn ?_ fun _ => ?_ | with_reducible refine frR_ite ?_ ?_ | with_reducible refine frR_lp fun _ => ?_ | omega
theorem fr_F_R_lineOf {x1 : Int32} : frR (F_R_lineOf x1) := by
  unfold F_R_lineOf
  repeat' first | with_reducible exact frR_rt | with_reducible exact frR_rd | with_reducible exact frR_ld | with_reducible refine frR_wr ?_ | with_reducible refine frR_sr ?_ | with_reducible exact frR_gd | with_reducible exact frR_gdZ | with_reducible exact fr_K_R_lineOf_2 | with_reducible refine frR_bn ?_ fun _ => ?_ | with_reducible refine frR_ite ?_ ?_ | omega
theorem fr_F_R_lawTells {x1 : Int32} {x2 : Int32} {x3 : Int32} : frR (F_R_lawTells x1 x2 x3) := by
  unfold F_R_lawTells
  repeat' first | with_reducible exact frR_rt | with_reducible exact frR_rd | with_reducible exact frR_ld | with_reducible refine frR_wr ?_ | with_reducible refine frR_sr ?_ | with_reducible exact frR_gd | with_reducible exact frR_gdZ | with_reducible exact fr_F_R_lineOf | with_reducible exact fr_F_R_held | with_reducible exact fr_F_R_runs | with_reducible refine frR_bn ?_ fun _ => ?_ | with_reducible refine frR_ite ?_ ?_ | omega
theorem fr_F_R_costsOf {x1 : Int32} : frR (F_R_costsOf x1) := by
  unfold F_R_costsOf
  repeat' first | with_reducible exact frR_rt | with_reducible exact frR_rd | with_reducible exact frR_ld | with_reducible refine frR_wr ?_ | with_reducible refine frR_sr ?_ | with_reducible exact frR_gd | with_reducible exact frR_gdZ | with_reducible exact fr_F_R_asks | with_reducible exact fr_F_R_lawTells | with_reducible refine frR_bn ?_ fun _ => ?_ | with_reducible refine frR_ite ?_ ?_ | omega
theorem fr_F_R_gainsOf {x1 : Int32} : frR (F_R_gainsOf x1) := by
  unfold F_R_gainsOf
  repeat' first | with_reducible exact frR_rt | with_reducible exact frR_rd | with_reducible exact frR_ld | with_reducible refine frR_wr ?_ | with_reducible refine frR_sr ?_ | with_reducible exact frR_gd | with_reducible exact frR_gdZ | with_reducible exact fr_F_R_asks | with_reducible exact fr_F_R_lawTells | with_reducible refine frR_bn ?_ fun _ => ?_ | with_reducible refine frR_ite ?_ ?_ | omega
theorem fr_F_R_livesOn {x1 : Int32} : frR (F_R_livesOn x1) := by
  unfold F_R_livesOn
  repeat' first | with_reducible exact frR_rt | with_reducible exact frR_rd | with_reducible exact frR_ld | with_reducible refine frR_wr ?_ | with_reducible refine frR_sr ?_ | with_reducible exact frR_gd | with_reducible exact frR_gdZ | with_reducible exact fr_F_R_gainsOf | with_reducible exact fr_F_R_lesser | with_reducible exact fr_F_R_costsOf | with_reducible refine frR_bn ?_ fun _ => ?_ | with_reducible refine frR_ite ?_ ?_ | omega
theorem fr_F_R_draw {x1 : Int32} : frR (F_R_draw x1) := by
  unfold F_R_draw
  repeat' first | with_reducible exact frR_rt | with_reducible exact frR_rd | with_reducible exact frR_ld | with_reducible refine frR_wr ?_ | with_reducible refine frR_sr ?_ | with_reducible exact frR_gd | with_reducible exact frR_gdZ | with_reducible refine frR_bn ?_ fun _ => ?_ | with_reducible refine frR_ite ?_ ?_ | with_reducible refine frR_dvI ?_ | omega
theorem fr_B_R_isWithAnother_2 {x1 : Int32} {y : Int32} : frR (B_R_isWithAnother_2 x1 y) := by
  unfold B_R_isWithAnother_2
  repeat' first | with_reducible exact frR_rt | with_reducible exact frR_rd | with_reducible exact frR_ld | with_reducible refine frR_wr ?_ | with_reducible refine frR_sr ?_ | with_reducible exact frR_gd | with_reducible exact frR_gdZ | with_reducible exact fr_F_R_isOut | with_reducible refine frR_bn ?_ fun _ => ?_ | with_reducible refine frR_ite ?_ ?_ | omega
theorem fr_K_R_isWithAnother_2 {x1 : Int32} {x2 : Int32} : frR (K_R_isWithAnother_2 x1 x2) := by
  unfold K_R_isWithAnother_2
  repeat' first | with_reducible exact frR_rt | with_reducible exact frR_rd | with_reducible exact frR_ld | with_reducible refine frR_wr ?_ | with_reducible refine frR_sr ?_ | with_reducible exact frR_gd | with_reducible exact frR_gdZ | with_reducible exact fr_B_R_isWithAnother_2 | with_reducible refine frR_bn ?_ fun _ => ?_ | with_reducible refine frR_ite ?_ ?_ | with_reducible refine frR_lp fun _ => ?_ | omega
theorem fr_F_R_isWithAnother {x1 : Int32} : frR (F_R_isWithAnother x1) := by
  unfold F_R_isWithAnother
  repeat' first | with_reducible exact frR_rt | with_reducible exact frR_rd | with_reducible exact frR_ld | with_reducible refine frR_wr ?_ | with_reducible refine frR_sr ?_ | with_reducible exact frR_gd | with_reducible exact frR_gdZ | with_reducible exact fr_K_R_isWithAnother_2 | with_reducible refine frR_bn ?_ fun _ => ?_ | with_reducible refine frR_ite ?_ ?_ | omega
theorem fr_F_R_seenOf {x1 : Int32} : frR (F_R_seenOf x1) := by
  unfold F_R_seenOf
  repeat' first | with_reducible exact frR_rt | with_reducible exact frR_rd | with_reducible exact frR_ld | with_reducible refine frR_wr ?_ | with_reducible refine frR_sr ?_ | with_reducible exact frR_gd | with_reducible exact frR_gdZ | with_reducible exact fr_F_R_asks | with_reducible exact fr_F_R_lawTells | with_reducible refine frR_bn ?_ fun _ => ?_ | with_reducible refine frR_ite ?_ ?_ | omega
theorem fr_K_R_mightBeSeen_49 {x1 : Int32} : frR (K_R_mightBeSeen_49 x1) := by
  unfold K_R_mightBeSeen_49
  repeat' first | with_reducible exact frR_rt | with_reducible exact frR_rd | with_reducible exact frR_ld | with_reducible refine frR_wr ?_ | with_reducible refine frR_sr ?_ | with_reducible exact frR_gd | with_reducible exact frR_gdZ | with_reducible exact fr_F_R_isWithAnother | with_reducible exact fr_F_R_lesser | with_reducible exact fr_F_R_writes | with_reducible refine frR_bn ?_ fun _ => ?_ | with_reducible refine frR_ite ?_ ?_ | omega
theorem fr_F_R_mightBeSeen {x1 : Int32} : frR (F_R_mightBeSeen x1) := by
  unfold F_R_mightBeSeen
  repeat' first | with_reducible exact frR_rt | with_reducible exact frR_rd | with_reducible exact frR_ld | with_reducible refine frR_wr ?_ | with_reducible refine frR_sr ?_ | with_reducible exact frR_gd | with_reducible exact frR_gdZ | with_reducible exact fr_F_R_seenOf | with_reducible exact fr_F_R_draw | with_reducible exact fr_F_R_isWithAnother | with_reducible exact fr_F_R_lesser | with_reducible exact fr_F_R_writes | with_reducible exact fr_K_R_mightBeSeen_49 | with_reducible refine frR_bn ?_ fun _ => ?_ | with_reducible refine frR_ite ?_ ?_ | omega
theorem fr_B_R_strikesOff_4 {y : Int32 × Int32} : frR (B_R_strikesOff_4 y) := by
  unfold B_R_strikesOff_4
  repeat' first | with_reducible exact frR_rt | with_reducible exact frR_rd | with_reducible exact frR_ld | with_reducible refine frR_wr ?_ | with_reducible refine frR_sr ?_ | with_reducible exact frR_gd | with_reducible exact frR_gdZ | with_reducible exact fr_F_R_isStruck | with_reducible exact fr_F_R_goesHome | with_reducible exact fr_F_R_writes | with_reducible refine frR_bn ?_ fun _ => ?_ | with_reducible refine frR_ite ?_ ?_ | omega
theorem fr_K_R_strikesOff_4 {x1 : Int32} {x2 : Int32} : frR (K_R_strikesOff_4 x1 x2) := by
  unfold K_R_strikesOff_4
  repeat' first | with_reducible exact frR_rt | with_reducible exact frR_rd | with_reducible exact frR_ld | with_reducible refine frR_wr ?_ | with_reducible refine frR_sr ?_ | with_reducible exact frR_gd | with_reducible exact frR_gdZ | with_reducible exact fr_B_R_strikesOff_4 | with_reducible refine frR_bn ?_ fun _ => ?_ | with_reducible refine frR_ite ?_ ?_ | with_reducible refine frR_lp fun _ => ?_ | omega
theorem fr_F_R_strikesOff : frR F_R_strikesOff := by
  unfold F_R_strikesOff
  repeat' first | with_reducible exact frR_rt | with_reducible exact frR_rd | with_reducible exact frR_ld | with_reducible refine frR_wr ?_ | with_reducible refine frR_sr ?_ | with_reducible exact frR_gd | with_reducible exact frR_gdZ | with_reducible exact fr_K_R_strikesOff_4 | with_reducible refine frR_bn ?_ fun _ => ?_ | with_reducible refine frR_ite ?_ ?_ | omega
theorem fr_B_R_goesBy_2 {y : Int32} : frR (B_R_goesBy_2 y) := by
  unfold B_R_goesBy_2
  repeat' first | with_reducible exact frR_rt | with_reducible exact frR_rd | with_reducible exact frR_ld | with_reducible refine frR_wr ?_ | with_reducible refine frR_sr ?_ | with_reducible exact frR_gd | with_reducible exact frR_gdZ | with_reducible exact fr_F_R_does | with_reducible refine frR_bn ?_ fun _ => ?_ | with_reducible refine frR_ite ?_ ?_ | omega
theorem fr_B_R_goesBy_58 {y : Int32} : frR (B_R_goesBy_58 y) := by
  unfold B_R_goesBy_58
  repeat' first | with_reducible exact frR_rt | with_reducible exact frR_rd | with_reducible exact frR_ld | with_reducible refine frR_wr ?_ | with_reducible refine frR_sr ?_ | with_reducible exact frR_gd | with_reducible exact frR_gdZ | with_reducible exact fr_F_R_isStruck | with_reducible exact fr_F_R_bySharesOf | with_reducible refine frR_bn ?_ fun _ => ?_ | with_reducible refine frR_ite ?_ ?_ | omega
theorem fr_B_R_goesBy_87 {y : Int32} : frR (B_R_goesBy_87 y) := by
  unfold B_R_goesBy_87
  repeat' first | with_reducible exact frR_rt | with_reducible exact frR_rd | with_reducible exact frR_ld | with_reducible refine frR_wr ?_ | with_reducible refine frR_sr ?_ | with_reducible exact frR_gd | with_reducible exact frR_gdZ | with_reducible exact fr_F_R_cousinsOf | with_reducible refine frR_bn ?_ fun _ => ?_ | with_reducible refine frR_ite ?_ ?_ | omega
theorem fr_B_R_goesBy_108 {y : Int32} : frR (B_R_goesBy_108 y) := by
  unfold B_R_goesBy_108
  repeat' first | with_reducible exact frR_rt | with_reducible exact frR_rd | with_reducible exact frR_ld | with_reducible refine frR_wr ?_ | with_reducible refine frR_sr ?_ | with_reducible exact frR_gd | with_reducible exact frR_gdZ | with_reducible exact fr_F_R_isOut | with_reducible exact fr_F_R_mightBeSeen | with_reducible refine frR_bn ?_ fun _ => ?_ | with_reducible refine frR_ite ?_ ?_ | omega
theorem fr_B_R_goesBy_137 {y : Int32} : frR (B_R_goesBy_137 y) := by
  unfold B_R_goesBy_137
  repeat' first | with_reducible exact frR_rt | with_reducible exact frR_rd | with_reducible exact frR_ld | with_reducible refine frR_wr ?_ | with_reducible refine frR_sr ?_ | with_reducible exact frR_gd | with_reducible exact frR_gdZ | with_reducible exact fr_F_R_isOut | with_reducible exact fr_F_R_livesOn | with_reducible refine frR_bn ?_ fun _ => ?_ | with_reducible refine frR_ite ?_ ?_ | omega
theorem fr_B_R_goesBy_213 {x1 : Int32} {y : Int32} : frR (B_R_goesBy_213 x1 y) := by
  unfold B_R_goesBy_213
  repeat' first | with_reducible exact frR_rt | with_reducible exact frR_rd | with_reducible exact frR_ld | with_reducible refine frR_wr ?_ | with_reducible refine frR_sr ?_ | with_reducible exact frR_gd | with_reducible exact frR_gdZ | with_reducible exact fr_F_R_greater | with_reducible refine frR_bn ?_ fun _ => ?_ | with_reducible refine frR_ite ?_ ?_ | omega
theorem fr_K_R_goesBy_213 {x1 : Int32} {x2 : Int32} : frR (K_R_goesBy_213 x1 x2) := by
  unfold K_R_goesBy_213
  repeat' first | with_reducible exact frR_rt | with_reducible exact frR_rd | with_reducible exact frR_ld | with_reducible refine frR_wr ?_ | with_reducible refine frR_sr ?_ | with_reducible exact frR_gd | with_reducible exact frR_gdZ | with_reducible exact fr_B_R_goesBy_213 | with_reducible refine frR_bn ?_ fun _ => ?_ | with_reducible refine frR_ite ?_ ?_ | with_reducible refine frR_lp fun _ => ?_ | omega
theorem fr_K_R_goesBy_164 : frR K_R_goesBy_164 := by
  unfold K_R_goesBy_164
  repeat' first | with_reducible exact frR_rt | with_reducible exact frR_rd | with_reducible exact frR_ld | with_reducible refine frR_wr ?_ | with_reducible refine frR_sr ?_ | with_reducible exact frR_gd | with_reducible exact frR_gdZ | with_reducible exact fr_F_R_strikesOff | with_reducible exact fr_K_R_goesBy_213 | with_reducible refine frR_bn ?_ fun _ => ?_ | with_reducible refine frR_ite ?_ ?_ | with_reducible refine frR_dvI ?_ | omega
theorem fr_K_R_goesBy_137 {x1 : Int32} : frR (K_R_goesBy_137 x1) := by
  unfold K_R_goesBy_137
  repeat' first | with_reducible exact frR_rt | with_reducible exact frR_rd | with_reducible exact frR_ld | with_reducible refine frR_wr ?_ | with_reducible refine frR_sr ?_ | with_reducible exact frR_gd | with_reducible exact frR_gdZ | with_reducible exact fr_B_R_goesBy_137 | with_reducible exact fr_K_R_goesBy_164 | with_reducible refine frR_bn ?_ fun _ => ?_ | with_reducible refine frR_ite ?_ ?_ | with_reducible refine frR_lp fun _ => ?_ | omega
end FRM5
