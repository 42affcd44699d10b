/-! what is left alone (printed by wip/tools/gen_fr.py) -/
section FRM6
theorem fr_K_R_goesBy_135 : frR K_R_goesBy_135 := by
  unfold K_R_goesBy_135
  repeat' first | with_reducible exact frR_rt | with_reducible exact frR_rd | with_reducible exact frR_ld | with_reducible refine frR_wr ?_ | with_reducible refine frR_sr ?_ | with_reducible exact frR_gd | with_reducible exact frR_gdZ | with_reducible exact fr_K_R_goesBy_137 | with_reducible refine frR_bn ?_ fun _ => ?_ | with_reducible refine frR_ite ?_ ?_ | omega
theorem fr_K_R_goesBy_108 {x1 : Int32} : frR (K_R_goesBy_108 x1) := by
  unfold K_R_goesBy_108
  repeat' first | with_reducible exact frR_rt | with_reducible exact frR_rd | with_reducible exact frR_ld | with_reducible refine frR_wr ?_ | with_reducible refine frR_sr ?_ | with_reducible exact frR_gd | with_reducible exact frR_gdZ | with_reducible exact fr_B_R_goesBy_108 | with_reducible exact fr_K_R_goesBy_135 | with_reducible refine frR_bn ?_ fun _ => ?_ | with_reducible refine frR_ite ?_ ?_ | with_reducible refine frR_lp fun _ => ?_ | omega
theorem fr_K_R_goesBy_106 : frR K_R_goesBy_106 := by
  unfold K_R_goesBy_106
  repeat' first | with_reducible exact frR_rt | with_reducible exact frR_rd | with_reducible exact frR_ld | with_reducible refine frR_wr ?_ | with_reducible refine frR_sr ?_ | with_reducible exact frR_gd | with_reducible exact frR_gdZ | with_reducible exact fr_K_R_goesBy_108 | with_reducible refine frR_bn ?_ fun _ => ?_ | with_reducible refine frR_ite ?_ ?_ | omega
theorem fr_K_R_goesBy_87 {x1 : Int32} : frR (K_R_goesBy_87 x1) := by
  unfold K_R_goesBy_87
  repeat' first | with_reducible exact frR_rt | with_reducible exact frR_rd | with_reducible exact frR_ld | with_reducible refine frR_wr ?_ | with_reducible refine frR_sr ?_ | with_reducible exact frR_gd | with_reducible exact frR_gdZ | with_reducible exact fr_B_R_goesBy_87 | with_reducible exact fr_K_R_goesBy_106 | with_reducible refine frR_bn ?_ fun _ => ?_ | with_reducible refine frR_ite ?_ ?_ | with_reducible refine frR_lp fun _ => ?_ | omega
theorem fr_K_R_goesBy_85 : frR K_R_goesBy_85 := by
  unfold K_R_goesBy_85
  repeat' first | with_reducible exact frR_rt | with_reducible exact frR_rd | with_reducible exact frR_ld | with_reducible refine frR_wr ?_ | with_reducible refine frR_sr ?_ | with_reducible exact frR_gd | with_reducible exact frR_gdZ | with_reducible exact fr_K_R_goesBy_87 | with_reducible refine frR_bn ?_ fun _ => ?_ | with_reducible refine frR_ite ?_ ?_ | omega
theorem fr_K_R_goesBy_58 {x1 : Int32} : frR (K_R_goesBy_58 x1) := by
  unfold K_R_goesBy_58
  repeat' first | with_reducible exact frR_rt | with_reducible exact frR_rd | with_reducible exact frR_ld | with_reducible refine frR_wr ?_ | with_reducible refine frR_sr ?_ | with_reducible exact frR_gd | with_reducible exact frR_gdZ | with_reducible exact fr_B_R_goesBy_58 | with_reducible exact fr_K_R_goesBy_85 | with_reducible refine frR_bn ?_ fun _ => ?_ | with_reducible refine frR_ite ?_ ?_ | with_reducible refine frR_lp fun _ => ?_ | omega
theorem fr_K_R_goesBy_56 : frR K_R_goesBy_56 := by
  unfold K_R_goesBy_56
  repeat' first | with_reducible exact frR_rt | with_reducible exact frR_rd | with_reducible exact frR_ld | with_reducible refine frR_wr ?_ | with_reducible refine frR_sr ?_ | with_reducible exact frR_gd | with_reducible exact frR_gdZ | with_reducible exact fr_K_R_goesBy_58 | with_reducible refine frR_bn ?_ fun _ => ?_ | with_reducible refine frR_ite ?_ ?_ | omega
theorem fr_K_R_goesBy_2 {x1 : Int32} : frR (K_R_goesBy_2 x1) := by
  unfold K_R_goesBy_2
  repeat' first | with_reducible exact frR_rt | with_reducible exact frR_rd | with_reducible exact frR_ld | with_reducible refine frR_wr ?_ | with_reducible refine frR_sr ?_ | with_reducible exact frR_gd | with_reducible exact frR_gdZ | with_reducible exact fr_B_R_goesBy_2 | with_reducible exact fr_K_R_goesBy_56 | with_reducible refine frR_bn ?_ fun _ => ?_ | with_reducible refine frR_ite ?_ ?_ | with_reducible refine frR_lp fun _ => ?_ | omega
theorem fr_F_R_goesBy : frR F_R_goesBy := by
  unfold F_R_goesBy
  repeat' first | with_reducible exact frR_rt | with_reducible exact frR_rd | with_reducible exact frR_ld | with_reducible refine frR_wr ?_ | with_reducible refine frR_sr ?_ | with_reducible exact frR_gd | with_reducible exact frR_gdZ | with_reducible exact fr_K_R_goesBy_2 | with_reducible refine frR_bn ?_ fun _ => ?_ | with_reducible refine frR_ite ?_ ?_ | omega
theorem fr_B_R_thinks_2 {y : Int32} : frR (B_R_thinks_2 y) := by
  unfold B_R_thinks_2
  repeat' first | with_reducible exact frR_rt | with_reducible exact frR_rd | with_reducible exact frR_ld | with_reducible refine frR_wr ?_ | with_reducible refine frR_sr ?_ | with_reducible exact frR_gd | with_reducible exact frR_gdZ | with_reducible refine frR_wrZ ?_ | with_reducible refine frR_bn ?_ fun _ => ?_ | with_reducible refine frR_ite ?_ ?_ | omega
theorem fr_K_R_thinks_2 {x1 : Int32} : frR (K_R_thinks_2 x1) := by
  unfold K_R_thinks_2
  repeat' first | with_reducible exact frR_rt | with_reducible exact frR_rd | with_reducible exact frR_ld | with_reducible refine frR_wr ?_ | with_reducible refine frR_sr ?_ | with_reducible exact frR_gd | with_reducible exact frR_gdZ | with_reducible exact fr_B_R_thinks_2 | with_reducible refine frR_bn ?_ fun _ => ?_ | with_reducible refine frR_ite ?_ ?_ | with_reducible refine frR_lp fun _ => ?_ | omega
theorem fr_F_R_thinks : frR F_R_thinks := by
  unfold F_R_thinks
  repeat' first | with_reducible exact frR_rt | with_reducible exact frR_rd | with_reducible exact frR_ld | with_reducible refine frR_wr ?_ | with_reducible refine frR_sr ?_ | with_reducible exact frR_gd | with_reducible exact frR_gdZ | with_reducible exact fr_K_R_thinks_2 | with_reducible refine frR_bn ?_ fun _ => ?_ | with_reducible refine frR_ite ?_ ?_ | omega
theorem fr_B_R_goes_34 {x1 : Int32} {x2 : Int32} {y : Int32} : frR (B_R_goes_34 x1 x2 y) := by
  unfold B_R_goes_34
  repeat' first | with_reducible exact frR_rt | with_reducible exact frR_rd | with_reducible exact frR_ld | with_reducible refine frR_wr ?_ | with_reducible refine frR_sr ?_ | with_reducible exact frR_gd | with_reducible exact frR_gdZ | with_reducible exact fr_F_R_goesBy | with_reducible refine frR_bn ?_ fun _ => ?_ | with_reducible refine frR_ite ?_ ?_ | omega
theorem fr_B_R_goes_98 {x2 : Int32} {y : Int32 × Int32} : frR (B_R_goes_98 x2 y) := by
  unfold B_R_goes_98
  repeat' first | with_reducible exact frR_rt | with_reducible exact frR_rd | with_reducible exact frR_ld | with_reducible refine frR_wr ?_ | with_reducible refine frR_sr ?_ | with_reducible exact frR_gd | with_reducible exact frR_gdZ | with_reducible exact fr_F_R_endsThought | with_reducible refine frR_bn ?_ fun _ => ?_ | with_reducible refine frR_ite ?_ ?_ | omega
theorem fr_K_R_goes_98 {x2 : Int32} {x3 : Int32} {x4 : Int32} : frR (K_R_goes_98 x2 x3 x4) := by
  unfold K_R_goes_98
  repeat' first | with_reducible exact frR_rt | with_reducible exact frR_rd | with_reducible exact frR_ld | with_reducible refine frR_wr ?_ | with_reducible refine frR_sr ?_ | with_reducible exact frR_gd | with_reducible exact frR_gdZ | with_reducible exact fr_B_R_goes_98 | with_reducible refine frR_bn ?_ fun _ => ?_ | with_reducible refine frR_ite ?_ ?_ | with_reducible refine frR_lp fun _ => ?_ | omega
theorem fr_K_R_goes_50 {x2 : Int32} : frR (K_R_goes_50 x2) := by
  unfold K_R_goes_50
  repeat' first | with_reducible exact frR_rt | with_reducible exact frR_rd | with_reducible exact frR_ld | with_reducible refine frR_wr ?_ | with_reducible refine frR_sr ?_ | with_reducible exact frR_gd | with_reducible exact frR_gdZ | with_reducible exact fr_K_R_goes_98 | with_reducible refine frR_bn ?_ fun _ => ?_ | with_reducible refine frR_ite ?_ ?_ | omega
theorem fr_K_R_goes_34 {x1 : Int32} {x2 : Int32} {x3 : Int32} : frR (K_R_goes_34 x1 x2 x3) := by
  unfold K_R_goes_34
  repeat' first | with_reducible exact frR_rt | with_reducible exact frR_rd | with_reducible exact frR_ld | with_reducible refine frR_wr ?_ | with_reducible refine frR_sr ?_ | with_reducible exact frR_gd | with_reducible exact frR_gdZ | with_reducible exact fr_B_R_goes_34 | with_reducible exact fr_K_R_goes_50 | with_reducible refine frR_bn ?_ fun _ => ?_ | with_reducible refine frR_ite ?_ ?_ | with_reducible refine frR_lp fun _ => ?_ | omega
theorem fr_F_R_goes {x1 : Int32} {x2 : Int32} : frR (F_R_goes x1 x2) := by
  unfold F_R_goes
  repeat' first | with_reducible exact frR_rt | with_reducible exact frR_rd | with_reducible exact frR_ld | with_reducible refine frR_wr ?_ | with_reducible refine frR_sr ?_ | with_reducible exact frR_gd | with_reducible exact frR_gdZ | with_reducible exact fr_F_R_isIn | with_reducible exact fr_F_R_thinks | with_reducible exact fr_K_R_goes_34 | with_reducible refine frR_bn ?_ fun _ => ?_ | with_reducible refine frR_ite ?_ ?_ | omega
theorem fr_B_R_hoop_50 {x1 : Int32} {x2 : Int32} {x3 : Int32} {y : Int32 × Int32 × Int32} : frR (B_R_hoop_50 x1 x2 x3 y) := by
  unfold B_R_hoop_50
  repeat' first | with_reducible exact frR_rt | with_reducible exact frR_rd | with_reducible exact frR_ld | with_reducible refine frR_wr ?_ | with_reducible refine frR_sr ?_ | with_reducible exact frR_gd | with_reducible exact frR_gdZ | with_reducible refine frR_bn ?_ fun _ => ?_ | with_reducible refine frR_ite ?_ ?_ | with_reducible refine frR_dvI ?_ | omega
theorem fr_K_R_hoop_76 {x3 : Int32} {x4 : Int32} {x5 : Int32} : frR (K_R_hoop_76 x3 x4 x5) := by
  unfold K_R_hoop_76
  repeat' first | with_reducible exact frR_rt | with_reducible exact frR_rd | with_reducible exact frR_ld | with_reducible refine frR_wr ?_ | with_reducible refine frR_sr ?_ | with_reducible exact frR_gd | with_reducible exact frR_gdZ | with_reducible refine frR_bn ?_ fun _ => ?_ | with_reducible refine frR_ite ?_ ?_ | omega
theorem fr_K_R_hoop_50 {x1 : Int32} {x2 : Int32} {x3 : Int32} {x4 : Int32} {x5 : Int32} {x6 : Int32} : frR (K_R_hoop_50 x1 x2 x3 x4 x5 x6) := by
  unfold K_R_hoop_50
  repeat' first | with_reducible exact frR_rt | with_reducible exact frR_rd | with_reducible exact frR_ld | with_reducible refine frR_wr ?_ | with_reducible refine frR_sr ?_ | with_reducible exact frR_gd | with_reducible exact frR_gdZ | with_reducible exact fr_B_R_hoop_50 | with_reducible exact fr_K_R_hoop_76 | with_reducible refine frR_bn ?_ fun _ => ?_ | with_reducible refine frR_ite ?_ ?_ | with_reducible refine frR_lp fun _ => ?_ | omega
theorem fr_F_R_hoop {x1 : Int32} {x2 : Int32} {x3 : Int32} : frR (F_R_hoop x1 x2 x3) := by
  unfold F_R_hoop
  repeat' first | with_reducible exact frR_rt | with_reducible exact frR_rd | with_reducible exact frR_ld | with_reducible refine frR_wr ?_ | with_reducible refine frR_sr ?_ | with_reducible exact frR_gd | with_reducible exact frR_gdZ | with_reducible exact fr_F_R_isIn | with_reducible exact fr_K_R_hoop_50 | with_reducible refine frR_bn ?_ fun _ => ?_ | with_reducible refine frR_ite ?_ ?_ | with_reducible refine frR_dvI ?_ | omega
theorem fr_B_R_hours_46 {x1 : Int32} {y : Int32 × Int32} : frR (B_R_hours_46 x1 y) := by
  unfold B_R_hours_46
  repeat' first | with_reducible exact frR_rt | with_reducible exact frR_rd | with_reducible exact frR_ld | with_reducible refine frR_wr ?_ | with_reducible refine frR_sr ?_ | with_reducible exact frR_gd | with_reducible exact frR_gdZ | with_reducible exact fr_F_R_keepsAhead | with_reducible exact fr_F_R_goesBy | with_reducible refine frR_bn ?_ fun _ => ?_ | with_reducible refine frR_ite ?_ ?_ | omega
theorem fr_K_R_hours_46 {x1 : Int32} {x2 : Int32} {x3 : Int32} : frR (K_R_hours_46 x1 x2 x3) := by
  unfold K_R_hours_46
  repeat' first | with_reducible exact frR_rt | with_reducible exact frR_rd | with_reducible exact frR_ld | with_reducible refine frR_wr ?_ | with_reducible refine frR_sr ?_ | with_reducible exact frR_gd | with_reducible exact frR_gdZ | with_reducible exact fr_B_R_hours_46 | with_reducible refine frR_bn ?_ fun _ => ?_ | with_reducible refine frR_ite ?_ ?_ | with_reducible refine frR_lp fun _ => ?_ | omega
theorem fr_F_R_hours {x1 : Int32} : frR (F_R_hours x1) := by
  unfold F_R_hours
  repeat' first | with_reducible exact frR_rt | with_reducible exact frR_rd | with_reducible exact frR_ld | with_reducible refine frR_wr ?_ | with_reducible refine frR_sr ?_ | with_reducible exact frR_gd | with_reducible exact frR_gdZ | with_reducible exact fr_F_R_isIn | with_reducible exact fr_K_R_hours_46 | with_reducible refine frR_bn ?_ fun _ => ?_ | with_reducible refine frR_ite ?_ ?_ | with_reducible refine frR_dvI ?_ | omega
theorem fr_F_R_kept {x1 : Int32} : frR (F_R_kept x1) := by
  unfold F_R_kept
  repeat' first | with_reducible exact frR_rt | with_reducible exact frR_rd | with_reducible exact frR_ld | with_reducible refine frR_wr ?_ | with_reducible refine frR_sr ?_ | with_reducible exact frR_gd | with_reducible exact frR_gdZ | with_reducible refine frR_bn ?_ fun _ => ?_ | with_reducible refine frR_ite ?_ ?_ | omega
theorem fr_B_R_keepsLaw_18 {y : Int32} : frR (B_R_keepsLaw_18 y) := by
  unfold B_R_keepsLaw_18
  repeat' first | with_reducible exact frR_rt | with_reducible exact frR_rd | with_reducible exact frR_ld | with_reducible refine frR_wr ?_ | with_reducible refine frR_sr ?_ | with_reducible exact frR_gd | with_reducible exact frR_gdZ | with_reducible exact fr_F_R_kept | with_reducible refine frR_bn ?_ fun _ => ?_ | with_reducible refine frR_ite ?_ ?_ | omega
theorem fr_B_R_keepsLaw_96 {y : Int32} : frR (B_R_keepsLaw_96 y) := by
  unfold B_R_keepsLaw_96
  repeat' first | with_reducible exact frR_rt | with_reducible exact frR_rd | with_reducible exact frR_ld | with_reducible refine frR_wr ?_ | with_reducible refine frR_sr ?_ | with_reducible exact frR_gd | with_reducible exact frR_gdZ | with_reducible exact fr_F_R_kept | with_reducible refine frR_bn ?_ fun _ => ?_ | with_reducible refine frR_ite ?_ ?_ | omega
theorem fr_K_R_keepsLaw_96 {x1 : Int32} : frR (K_R_keepsLaw_96 x1) := by
  unfold K_R_keepsLaw_96
  repeat' first | with_reducible exact frR_rt | with_reducible exact frR_rd | with_reducible exact frR_ld | with_reducible refine frR_wr ?_ | with_reducible refine frR_sr ?_ | with_reducible exact frR_gd | with_reducible exact frR_gdZ | with_reducible exact fr_B_R_keepsLaw_96 | with_reducible refine frR_bn ?_ fun _ => ?_ | with_reducible refine frR_ite ?_ ?_ | with_reducible refine frR_lp fun _ => ?_ | omega
theorem fr_K_R_keepsLaw_94 : frR K_R_keepsLaw_94 := by
  unfold K_R_keepsLaw_94
  repeat' first | with_reducible exact frR_rt | with_reducible exact frR_rd | with_reducible exact frR_ld | with_reducible refine frR_wr ?_ | with_reducible refine frR_sr ?_ | with_reducible exact frR_gd | with_reducible exact frR_gdZ | with_reducible exact fr_K_R_keepsLaw_96 | with_reducible refine frR_bn ?_ fun _ => ?_ | with_reducible refine frR_ite ?_ ?_ | omega
theorem fr_K_R_keepsLaw_18 {x1 : Int32} : frR (K_R_keepsLaw_18 x1) := by
  unfold K_R_keepsLaw_18
  repeat' first | with_reducible exact frR_rt | with_reducible exact frR_rd | with_reducible exact frR_ld | with_reducible refine frR_wr ?_ | with_reducible refine frR_sr ?_ | with_reducible exact frR_gd | with_reducible exact frR_gdZ | with_reducible exact fr_B_R_keepsLaw_18 | with_reducible exact fr_K_R_keepsLaw_94 | with_reducible refine frR_bn ?_ fun _ => ?_ | with_reducible refine frR_ite ?_ ?_ | with_reducible refine frR_lp fun _ => ?_ | omega
theorem fr_F_R_keepsLaw : frR F_R_keepsLaw := by
  unfold F_R_keepsLaw
  repeat' first | with_reducible exact frR_rt | with_reducible exact frR_rd | with_reducible exact frR_ld | with_reducible refine frR_wr ?_ | with_reducible refine frR_sr ?_ | with_reducible exact frR_gd | with_reducible exact frR_gdZ | with_reducible exact fr_F_R_kept | with_reducible exact fr_K_R_keepsLaw_18 | with_reducible refine frR_bn ?_ fun _ => ?_ | with_reducible refine frR_ite ?_ ?_ | omega
theorem fr_F_R_keepsMany : frR F_R_keepsMany := by
  unfold F_R_keepsMany
  repeat' first | with_reducible exact frR_rt | with_reducible exact frR_rd | with_reducible exact frR_ld | with_reducible refine frR_wr ?_ | with_reducible refine frR_sr ?_ | with_reducible exact frR_gd | with_reducible exact frR_gdZ | with_reducible exact fr_F_R_kept | with_reducible refine frR_bn ?_ fun _ => ?_ | with_reducible refine frR_ite ?_ ?_ | omega
theorem fr_B_R_keepsTold_2 {y : Int32} : frR (B_R_keepsTold_2 y) := by
  unfold B_R_keepsTold_2
  repeat' first | with_reducible exact frR_rt | with_reducible exact frR_rd | with_reducible exact frR_ld | with_reducible refine frR_wr ?_ | with_reducible refine frR_sr ?_ | with_reducible exact frR_gd | with_reducible exact frR_gdZ | with_reducible exact fr_F_R_kept | with_reducible refine frR_bn ?_ fun _ => ?_ | with_reducible refine frR_ite ?_ ?_ | omega
theorem fr_B_R_keepsTold_64 {y : Int32} : frR (B_R_keepsTold_64 y) := by
  unfold B_R_keepsTold_64
  repeat' first | with_reducible exact frR_rt | with_reducible exact frR_rd | with_reducible exact frR_ld | with_reducible refine frR_wr ?_ | with_reducible refine frR_sr ?_ | with_reducible exact frR_gd | with_reducible exact frR_gdZ | with_reducible exact fr_F_R_kept | with_reducible refine frR_bn ?_ fun _ => ?_ | with_reducible refine frR_ite ?_ ?_ | omega
theorem fr_B_R_keepsTold_126 {y : Int32} : frR (B_R_keepsTold_126 y) := by
  unfold B_R_keepsTold_126
  repeat' first | with_reducible exact frR_rt | with_reducible exact frR_rd | with_reducible exact frR_ld | with_reducible refine frR_wr ?_ | with_reducible refine frR_sr ?_ | with_reducible exact frR_gd | with_reducible exact frR_gdZ | with_reducible exact fr_F_R_kept | with_reducible refine frR_bn ?_ fun _ => ?_ | with_reducible refine frR_ite ?_ ?_ | omega
theorem fr_B_R_keepsTold_284 {y : Int32} : frR (B_R_keepsTold_284 y) := by
  unfold B_R_keepsTold_284
  repeat' first | with_reducible exact frR_rt | with_reducible exact frR_rd | with_reducible exact frR_ld | with_reducible refine frR_wr ?_ | with_reducible refine frR_sr ?_ | with_reducible exact frR_gd | with_reducible exact frR_gdZ | with_reducible exact fr_F_R_kept | with_reducible refine frR_bn ?_ fun _ => ?_ | with_reducible refine frR_ite ?_ ?_ | omega
theorem fr_B_R_keepsTold_346 {y : Int32} : frR (B_R_keepsTold_346 y) := by
  unfold B_R_keepsTold_346
  repeat' first | with_reducible exact frR_rt | with_reducible exact frR_rd | with_reducible exact frR_ld | with_reducible refine frR_wr ?_ | with_reducible refine frR_sr ?_ | with_reducible exact frR_gd | with_reducible exact frR_gdZ | with_reducible exact fr_F_R_kept | with_reducible refine frR_bn ?_ fun _ => ?_ | with_reducible refine frR_ite ?_ ?_ | omega
theorem fr_B_R_keepsTold_376 {y : Int32} : frR (B_R_keepsTold_376 y) := by
  unfold B_R_keepsTold_376
  repeat' first | with_reducible exact frR_rt | with_reducible exact frR_rd | with_reducible exact frR_ld | with_reducible refine frR_wr ?_ | with_reducible refine frR_sr ?_ | with_reducible exact frR_gd | with_reducible exact frR_gdZ | with_reducible exact fr_F_R_kept | with_reducible refine frR_bn ?_ fun _ => ?_ | with_reducible refine frR_ite ?_ ?_ | omega
theorem fr_B_R_keepsTold_406 {y : Int32} : frR (B_R_keepsTold_406 y) := by
  unfold B_R_keepsTold_406
  repeat' first | with_reducible exact frR_rt | with_reducible exact frR_rd | with_reducible exact frR_ld | with_reducible refine frR_wr ?_ | with_reducible refine frR_sr ?_ | with_reducible exact frR_gd | with_reducible exact frR_gdZ | with_reducible exact fr_F_R_kept | with_reducible refine frR_bn ?_ fun _ => ?_ | with_reducible refine frR_ite ?_ ?_ | omega
theorem fr_K_R_keepsTold_406 {x1 : Int32} : frR (K_R_keepsTold_406 x1) := by
  unfold K_R_keepsTold_406
  repeat' first | with_reducible exact frR_rt | with_reducible exact frR_rd | with_reducible exact frR_ld | with_reducible refine frR_wr ?_ | with_reducible refine frR_sr ?_ | with_reducible exact frR_gd | with_reducible exact frR_gdZ | with_reducible exact fr_B_R_keepsTold_406 | with_reducible refine frR_bn ?_ fun _ => ?_ | with_reducible refine frR_ite ?_ ?_ | with_reducible refine frR_lp fun _ => ?_ | omega
theorem fr_K_R_keepsTold_404 : frR K_R_keepsTold_404 := by
  unfold K_R_keepsTold_404
  repeat' first | with_reducible exact frR_rt | with_reducible exact frR_rd | with_reducible exact frR_ld | with_reducible refine frR_wr ?_ | with_reducible refine frR_sr ?_ | with_reducible exact frR_gd | with_reducible exact frR_gdZ | with_reducible exact fr_K_R_keepsTold_406 | with_reducible refine frR_bn ?_ fun _ => ?_ | with_reducible refine frR_ite ?_ ?_ | omega
theorem fr_K_R_keepsTold_376 {x1 : Int32} : frR (K_R_keepsTold_376 x1) := by
  unfold K_R_keepsTold_376
  repeat' first | with_reducible exact frR_rt | with_reducible exact frR_rd | with_reducible exact frR_ld | with_reducible refine frR_wr ?_ | with_reducible refine frR_sr ?_ | with_reducible exact frR_gd | with_reducible exact frR_gdZ | with_reducible exact fr_B_R_keepsTold_376 | with_reducible exact fr_K_R_keepsTold_404 | with_reducible refine frR_bn ?_ fun _ => ?_ | with_reducible refine frR_ite ?_ ?_ | with_reducible refine frR_lp fun _ => ?_ | omega
theorem fr_K_R_keepsTold_374 : frR K_R_keepsTold_374 := by
  unfold K_R_keepsTold_374
  repeat' first | with_reducible exact frR_rt | with_reducible exact frR_rd | with_reducible exact frR_ld | with_reducible refine frR_wr ?_ | with_reducible refine frR_sr ?_ | with_reducible exact frR_gd | with_reducible exact frR_gdZ | with_reducible exact fr_K_R_keepsTold_376 | with_reducible refine frR_bn ?_ fun _ => ?_ | with_reducible refine frR_ite ?_ ?_ | omega
theorem fr_K_R_keepsTold_346 {x1 : Int32} : frR (K_R_keepsTold_346 x1) := by
  unfold K_R_keepsTold_346
  repeat' first | with_reducible exact frR_rt | with_reducible exact frR_rd | with_reducible exact frR_ld | with_reducible refine frR_wr ?_ | with_reducible refine frR_sr ?_ | with_reducible exact frR_gd | with_reducible exact frR_gdZ | with_reducible exact fr_B_R_keepsTold_346 | with_reducible exact fr_K_R_keepsTold_374 | with_reducible refine frR_bn ?_ fun _ => ?_ | with_reducible refine frR_ite ?_ ?_ | with_reducible refine frR_lp fun _ => ?_ | omega
theorem fr_K_R_keepsTold_344 : frR K_R_keepsTold_344 := by
  unfold K_R_keepsTold_344
  repeat' first | with_reducible exact frR_rt | with_reducible exact frR_rd | with_reducible exact frR_ld | with_reducible refine frR_wr ?_ | with_reducible refine frR_sr ?_ | with_reducible exact frR_gd | with_reducible exact frR_gdZ | with_reducible exact fr_K_R_keepsTold_346 | with_reducible refine frR_bn ?_ fun _ => ?_ | with_reducible refine frR_ite ?_ ?_ | omega
theorem fr_K_R_keepsTold_284 {x1 : Int32} : frR (K_R_keepsTold_284 x1) := by
  unfold K_R_keepsTold_284
  repeat' first | with_reducible exact frR_rt | with_reducible exact frR_rd | with_reducible exact frR_ld | with_reducible refine frR_wr ?_ | with_reducible refine frR_sr ?_ | with_reducible exact frR_gd | with_reducible exact frR_gdZ | with_reducible exact fr_B_R_keepsTold_284 | with_reducible exact fr_K_R_keepsTold_344 | with_reducible refine frR_bn ?_ fun _ => ?_ | with_reducible refine frR_ite ?_ ?_ | with_reducible refine frR_lp fun _ => ?_ | omega
theorem fr_K_R_keepsTold_282 : frR K_R_keepsTold_282 := by
  unfold K_R_keepsTold_282
  repeat' first | with_reducible exact frR_rt | with_reducible exact frR_rd | with_reducible exact frR_ld | with_reducible refine frR_wr ?_ | with_reducible refine frR_sr ?_ | with_reducible exact frR_gd | with_reducible exact frR_gdZ | with_reducible exact fr_K_R_keepsTold_284 | with_reducible refine frR_bn ?_ fun _ => ?_ | with_reducible refine frR_ite ?_ ?_ | omega
theorem fr_K_R_keepsTold_126 {x1 : Int32} : frR (K_R_keepsTold_126 x1) := by
  unfold K_R_keepsTold_126
  repeat' first | with_reducible exact frR_rt | with_reducible exact frR_rd | with_reducible exact frR_ld | with_reducible refine frR_wr ?_ | with_reducible refine frR_sr ?_ | with_reducible exact frR_gd | with_reducible exact frR_gdZ | with_reducible exact fr_B_R_keepsTold_126 | with_reducible exact fr_K_R_keepsTold_282 | with_reducible refine frR_bn ?_ fun _ => ?_ | with_reducible refine frR_ite ?_ ?_ | with_reducible refine frR_lp fun _ => ?_ | omega
theorem fr_K_R_keepsTold_124 : frR K_R_keepsTold_124 := by
  unfold K_R_keepsTold_124
  repeat' first | with_reducible exact frR_rt | with_reducible exact frR_rd | with_reducible exact frR_ld | with_reducible refine frR_wr ?_ | with_reducible refine frR_sr ?_ | with_reducible exact frR_gd | with_reducible exact frR_gdZ | with_reducible exact fr_K_R_keepsTold_126 | with_reducible refine frR_bn ?_ fun _ => ?_ | with_reducible refine frR_ite ?_ ?_ | omega
theorem fr_K_R_keepsTold_64 {x1 : Int32} : frR (K_R_keepsTold_64 x1) := by
  unfold K_R_keepsTold_64
  repeat' first | with_reducible exact frR_rt | with_reducible exact frR_rd | with_reducible exact frR_ld | with_reducible refine frR_wr ?_ | with_reducible refine frR_sr ?_ | with_reducible exact frR_gd | with_reducible exact frR_gdZ | with_reducible exact fr_B_R_keepsTold_64 | with_reducible exact fr_K_R_keepsTold_124 | with_reducible refine frR_bn ?_ fun _ => ?_ | with_reducible refine frR_ite ?_ ?_ | with_reducible refine frR_lp fun _ => ?_ | omega
theorem fr_K_R_keepsTold_62 : frR K_R_keepsTold_62 := by
  unfold K_R_keepsTold_62
  repeat' first | with_reducible exact frR_rt | with_reducible exact frR_rd | with_reducible exact frR_ld | with_reducible refine frR_wr ?_ | with_reducible refine frR_sr ?_ | with_reducible exact frR_gd | with_reducible exact frR_gdZ | with_reducible exact fr_K_R_keepsTold_64 | with_reducible refine frR_bn ?_ fun _ => ?_ | with_reducible refine frR_ite ?_ ?_ | omega
theorem fr_K_R_keepsTold_2 {x1 : Int32} : frR (K_R_keepsTold_2 x1) := by
  unfold K_R_keepsTold_2
  repeat' first | with_reducible exact frR_rt | with_reducible exact frR_rd | with_reducible exact frR_ld | with_reducible refine frR_wr ?_ | with_reducible refine frR_sr ?_ | with_reducible exact frR_gd | with_reducible exact frR_gdZ | with_reducible exact fr_B_R_keepsTold_2 | with_reducible exact fr_K_R_keepsTold_62 | with_reducible refine frR_bn ?_ fun _ => ?_ | with_reducible refine frR_ite ?_ ?_ | with_reducible refine frR_lp fun _ => ?_ | omega
theorem fr_F_R_keepsTold : frR F_R_keepsTold := by
  unfold F_R_keepsTold
  repeat' first | with_reducible exact frR_rt | with_reducible exact frR_rd | with_reducible exact frR_ld | with_reducible refine frR_wr ?_ | with_reducible refine frR_sr ?_ | with_reducible exact frR_gd | with_reducible exact frR_gdZ | with_reducible exact fr_K_R_keepsTold_2 | with_reducible refine frR_bn ?_ fun _ => ?_ | with_reducible refine frR_ite ?_ ?_ | omega
theorem fr_B_R_image_35 {x1 : Int32} {y : Int32} : frR (B_R_image_35 x1 y) := by
  unfold B_R_image_35
  repeat' first | with_reducible exact frR_rt | with_reducible exact frR_rd | with_reducible exact frR_ld | with_reducible refine frR_wr ?_ | with_reducible refine frR_sr ?_ | with_reducible exact frR_gd | with_reducible exact frR_gdZ | with_reducible exact fr_F_R_kept | with_reducible refine frR_bn ?_ fun _ => ?_ | with_reducible refine frR_ite ?_ ?_ | omega
theorem fr_B_R_image_73 {x1 : Int32} {y : Int32} : frR (B_R_image_73 x1 y) := by
  unfold B_R_image_73
  repeat' first | with_reducible exact frR_rt | with_reducible exact frR_rd | with_reducible exact frR_ld | with_reducible refine frR_wr ?_ | with_reducible refine frR_sr ?_ | with_reducible exact frR_gd | with_reducible exact frR_gdZ | with_reducible exact fr_F_R_kept | with_reducible refine frR_bn ?_ fun _ => ?_ | with_reducible refine frR_ite ?_ ?_ | omega
theorem fr_K_R_image_102 {x1 : Int32} : frR (K_R_image_102 x1) := by
  unfold K_R_image_102
  repeat' first | with_reducible exact frR_rt | with_reducible exact frR_rd | with_reducible exact frR_ld | with_reducible refine frR_wr ?_ | with_reducible refine frR_sr ?_ | with_reducible exact frR_gd | with_reducible exact frR_gdZ | with_reducible exact fr_F_R_keepsLaw | with_reducible refine frR_bn ?_ fun _ => ?_ | with_reducible refine frR_ite ?_ ?_ | omega
theorem fr_K_R_image_73 {x1 : Int32} {x2 : Int32} : frR (K_R_image_73 x1 x2) := by
  unfold K_R_image_73
  repeat' first | with_reducible exact frR_rt | with_reducible exact frR_rd | with_reducible exact frR_ld | with_reducible refine frR_wr ?_ | with_reducible refine frR_sr ?_ | with_reducible exact frR_gd | with_reducible exact frR_gdZ | with_reducible exact fr_B_R_image_73 | with_reducible exact fr_K_R_image_102 | with_reducible refine frR_bn ?_ fun _ => ?_ | with_reducible refine frR_ite ?_ ?_ | with_reducible refine frR_lp fun _ => ?_ | omega
theorem fr_K_R_image_63 {x1 : Int32} : frR (K_R_image_63 x1) := by
  unfold K_R_image_63
  repeat' first | with_reducible exact frR_rt | with_reducible exact frR_rd | with_reducible exact frR_ld | with_reducible refine frR_wr ?_ | with_reducible refine frR_sr ?_ | with_reducible exact frR_gd | with_reducible exact frR_gdZ | with_reducible exact fr_F_R_keepsMany | with_reducible exact fr_F_R_keepsTold | with_reducible exact fr_K_R_image_73 | with_reducible refine frR_bn ?_ fun _ => ?_ | with_reducible refine frR_ite ?_ ?_ | omega
theorem fr_K_R_image_35 {x1 : Int32} {x2 : Int32} : frR (K_R_image_35 x1 x2) := by
  unfold K_R_image_35
  repeat' first | with_reducible exact frR_rt | with_reducible exact frR_rd | with_reducible exact frR_ld | with_reducible refine frR_wr ?_ | with_reducible refine frR_sr ?_ | with_reducible exact frR_gd | with_reducible exact frR_gdZ | with_reducible exact fr_B_R_image_35 | with_reducible exact fr_K_R_image_63 | with_reducible refine frR_bn ?_ fun _ => ?_ | with_reducible refine frR_ite ?_ ?_ | with_reducible refine frR_lp fun _ => ?_ | omega
theorem fr_F_R_image {x1 : Int32} : frR (F_R_image x1) := by
  unfold F_R_image
  repeat' first | with_reducible exact frR_rt | with_reducible exact frR_rd | with_reducible exact frR_ld | with_reducible refine frR_wr ?_ | with_reducible refine frR_sr ?_ | with_reducible exact frR_gd | with_reducible exact frR_gdZ | with_reducible refine frR_wrZ ?_ | with_reducible exact fr_K_R_image_35 | with_reducible refine frR_bn ?_ fun _ => ?_ | with_reducible refine frR_ite ?_ ?_ | omega
theorem fr_B_R_keeps_21 {x1 : Int32} {y : Int32} : frR (B_R_keeps_21 x1 y) := by
  unfold B_R_keeps_21
  repeat' first | with_reducible exact frR_rt | with_reducible exact frR_rd | with_reducible exact frR_ld | with_reducible refine frR_wr ?_ | with_reducible refine frR_sr ?_ | with_reducible exact frR_gd | with_reducible exact frR_gdZ | with_reducible exact fr_F_R_isStruck | with_reducible exact fr_F_R_goesBy | with_reducible refine frR_bn ?_ fun _ => ?_ | with_reducible refine frR_ite ?_ ?_ | omega
theorem fr_K_R_keeps_47 {x2 : Int32} : frR (K_R_keeps_47 x2) := by
  unfold K_R_keeps_47
  repeat' first | with_reducible exact frR_rt | with_reducible exact frR_rd | with_reducible exact frR_ld | with_reducible refine frR_wr ?_ | with_reducible refine frR_sr ?_ | with_reducible exact frR_gd | with_reducible exact frR_gdZ | with_reducible exact fr_F_R_endsThought | with_reducible refine frR_bn ?_ fun _ => ?_ | with_reducible refine frR_ite ?_ ?_ | omega
theorem fr_K_R_keeps_21 {x1 : Int32} {x2 : Int32} : frR (K_R_keeps_21 x1 x2) := by
  unfold K_R_keeps_21
  repeat' first | with_reducible exact frR_rt | with_reducible exact frR_rd | with_reducible exact frR_ld | with_reducible refine frR_wr ?_ | with_reducible refine frR_sr ?_ | with_reducible exact frR_gd | with_reducible exact frR_gdZ | with_reducible exact fr_B_R_keeps_21 | with_reducible exact fr_K_R_keeps_47 | with_reducible refine frR_bn ?_ fun _ => ?_ | with_reducible refine frR_ite ?_ ?_ | with_reducible refine frR_lp fun _ => ?_ | omega
theorem fr_F_R_keeps {x1 : Int32} : frR (F_R_keeps x1) := by
  unfold F_R_keeps
  repeat' first | with_reducible exact frR_rt | with_reducible exact frR_rd | with_reducible exact frR_ld | with_reducible refine frR_wr ?_ | with_reducible refine frR_sr ?_ | with_reducible exact frR_gd | with_reducible exact frR_gdZ | with_reducible exact fr_F_R_isAlias | with_reducible exact fr_F_R_thinks | with_reducible exact fr_K_R_keeps_21 | with_reducible refine frR_bn ?_ fun _ => ?_ | with_reducible refine frR_ite ?_ ?_ | omega
theorem fr_B_R_coatsAt_4 {x1 : Int32} {y : Int32 × Int32} : frR (B_R_coatsAt_4 x1 y) := by
  unfold B_R_coatsAt_4
  repeat' first | with_reducible exact frR_rt | with_reducible exact frR_rd | with_reducible exact frR_ld | with_reducible refine frR_wr ?_ | with_reducible refine frR_sr ?_ | with_reducible exact frR_gd | with_reducible exact frR_gdZ | with_reducible exact fr_F_R_isIn | with_reducible refine frR_bn ?_ fun _ => ?_ | with_reducible refine frR_ite ?_ ?_ | omega
theorem fr_K_R_coatsAt_4 {x1 : Int32} {x2 : Int32} {x3 : Int32} : frR (K_R_coatsAt_4 x1 x2 x3) := by
  unfold K_R_coatsAt_4
  repeat' first | with_reducible exact frR_rt | with_reducible exact frR_rd | with_reducible exact frR_ld | with_reducible refine frR_wr ?_ | with_reducible refine frR_sr ?_ | with_reducible exact frR_gd | with_reducible exact frR_gdZ | with_reducible exact fr_B_R_coatsAt_4 | with_reducible refine frR_bn ?_ fun _ => ?_ | with_reducible refine frR_ite ?_ ?_ | with_reducible refine frR_lp fun _ => ?_ | omega
theorem fr_F_R_coatsAt {x1 : Int32} : frR (F_R_coatsAt x1) := by
  unfold F_R_coatsAt
  repeat' first | with_reducible exact frR_rt | with_reducible exact frR_rd | with_reducible exact frR_ld | with_reducible refine frR_wr ?_ | with_reducible refine frR_sr ?_ | with_reducible exact frR_gd | with_reducible exact frR_gdZ | with_reducible exact fr_K_R_coatsAt_4 | with_reducible refine frR_bn ?_ fun _ => ?_ | with_reducible refine frR_ite ?_ ?_ | omega
theorem fr_B_R_onesOf_4 {y : Int32 × Int32} : frR (B_R_onesOf_4 y) := by
  unfold B_R_onesOf_4
  repeat' first | with_reducible exact frR_rt | with_reducible exact frR_rd | with_reducible exact frR_ld | with_reducible refine frR_wr ?_ | with_reducible refine frR_sr ?_ | with_reducible exact frR_gd | with_reducible exact frR_gdZ | with_reducible refine frR_bn ?_ fun _ => ?_ | with_reducible refine frR_ite ?_ ?_ | omega
theorem fr_K_R_onesOf_4 {x2 : Int32} {x3 : Int32} : frR (K_R_onesOf_4 x2 x3) := by
  unfold K_R_onesOf_4
  repeat' first | with_reducible exact frR_rt | with_reducible exact frR_rd | with_reducible exact frR_ld | with_reducible refine frR_wr ?_ | with_reducible refine frR_sr ?_ | with_reducible exact frR_gd | with_reducible exact frR_gdZ | with_reducible exact fr_B_R_onesOf_4 | with_reducible refine frR_bn ?_ fun _ => ?_ | with_reducible refine frR_ite ?_ ?_ | with_reducible refine frR_lp fun _ => ?_ | omega
theorem fr_F_R_onesOf {x1 : Int32} : frR (F_R_onesOf x1) := by
  unfold F_R_onesOf
  repeat' first | with_reducible exact frR_rt | with_reducible exact frR_rd | with_reducible exact frR_ld | with_reducible refine frR_wr ?_ | with_reducible refine frR_sr ?_ | with_reducible exact frR_gd | with_reducible exact frR_gdZ | with_reducible exact fr_K_R_onesOf_4 | with_reducible refine frR_bn ?_ fun _ => ?_ | with_reducible refine frR_ite ?_ ?_ | omega
theorem fr_B_R_watchSet_17 {x1 : Int32} {x2 : Int32} {y : Int32 × Int32} : frR (B_R_watchSet_17 x1 x2 y) := by
  unfold B_R_watchSet_17
  repeat' first | with_reducible exact frR_rt | with_reducible exact frR_rd | with_reducible exact frR_ld | with_reducible refine frR_wr ?_ | with_reducible refine frR_sr ?_ | with_reducible exact frR_gd | with_reducible exact frR_gdZ | with_reducible exact fr_F_R_has | with_reducible refine frR_bn ?_ fun _ => ?_ | with_reducible refine frR_ite ?_ ?_ | omega
theorem fr_K_R_watchSet_50 {x1 : Int32} {x2 : Int32} {x3 : Int32} : frR (K_R_watchSet_50 x1 x2 x3) := by
  unfold K_R_watchSet_50
  repeat' first | with_reducible exact frR_rt | with_reducible exact frR_rd | with_reducible exact frR_ld | with_reducible refine frR_wr ?_ | with_reducible refine frR_sr ?_ | with_reducible exact frR_gd | with_reducible exact frR_gdZ | with_reducible exact fr_F_R_onesOf | with_reducible refine frR_bn ?_ fun _ => ?_ | with_reducible refine frR_ite ?_ ?_ | omega
theorem fr_K_R_watchSet_17 {x1 : Int32} {x2 : Int32} {x3 : Int32} {x4 : Int32} : frR (K_R_watchSet_17 x1 x2 x3 x4) := by
  unfold K_R_watchSet_17
  repeat' first | with_reducible exact frR_rt | with_reducible exact frR_rd | with_reducible exact frR_ld | with_reducible refine frR_wr ?_ | with_reducible refine frR_sr ?_ | with_reducible exact frR_gd | with_reducible exact frR_gdZ | with_reducible exact fr_B_R_watchSet_17 | with_reducible exact fr_K_R_watchSet_50 | with_reducible refine frR_bn ?_ fun _ => ?_ | with_reducible refine frR_ite ?_ ?_ | with_reducible refine frR_lp fun _ => ?_ | omega
theorem fr_B_R_watchSet_8 {y : Int32 × Int32} : frR (B_R_watchSet_8 y) := by
  unfold B_R_watchSet_8
  repeat' first | with_reducible exact frR_rt | with_reducible exact frR_rd | with_reducible exact frR_ld | with_reducible refine frR_wr ?_ | with_reducible refine frR_sr ?_ | with_reducible exact frR_gd | with_reducible exact frR_gdZ | with_reducible exact fr_K_R_watchSet_17 | with_reducible refine frR_bn ?_ fun _ => ?_ | with_reducible refine frR_ite ?_ ?_ | omega
theorem fr_K_R_watchSet_8 {x1 : Int32} {x2 : Int32} : frR (K_R_watchSet_8 x1 x2) := by
  unfold K_R_watchSet_8
  repeat' first | with_reducible exact frR_rt | with_reducible exact frR_rd | with_reducible exact frR_ld | with_reducible refine frR_wr ?_ | with_reducible refine frR_sr ?_ | with_reducible exact frR_gd | with_reducible exact frR_gdZ | with_reducible exact fr_B_R_watchSet_8 | with_reducible refine frR_bn ?_ fun _ => ?_ | with_reducible refine frR_ite ?_ ?_ | with_reducible refine frR_lp fun _ => ?_ | omega
theorem fr_F_R_watchSet : frR F_R_watchSet := by
  unfold F_R_watchSet
  repeat' first | with_reducible exact frR_rt | with_reducible exact frR_rd | with_reducible exact frR_ld | with_reducible refine frR_wr ?_ | with_reducible refine frR_sr ?_ | with_reducible exact frR_gd | with_reducible exact frR_gdZ | with_reducible exact fr_K_R_watchSet_8 | with_reducible refine frR_bn ?_ fun _ => ?_ | with_reducible refine frR_ite ?_ ?_ | omega
theorem fr_B_R_least_45 {x1 : Int32} {y : Int32 × Int32} : frR (B_R_least_45 x1 y) := by
  unfold B_R_least_45
  repeat' first | with_reducible exact frR_rt | with_reducible exact frR_rd | with_reducible exact frR_ld | with_reducible refine frR_wr ?_ | with_reducible refine frR_sr ?_ | with_reducible exact frR_gd | with_reducible exact frR_gdZ | with_reducible exact fr_F_R_coatsAt | with_reducible refine frR_bn ?_ fun _ => ?_ | with_reducible refine frR_ite ?_ ?_ | omega
theorem fr_K_R_least_72 {x1 : Int32} {x2 : Int32} : frR (K_R_least_72 x1 x2) := by
  unfold K_R_least_72
  repeat' first | with_reducible exact frR_rt | with_reducible exact frR_rd | with_reducible exact frR_ld | with_reducible refine frR_wr ?_ | with_reducible refine frR_sr ?_ | with_reducible exact frR_gd | with_reducible exact frR_gdZ | with_reducible exact fr_F_R_coatsAt | with_reducible refine frR_bn ?_ fun _ => ?_ | with_reducible refine frR_ite ?_ ?_ | omega
theorem fr_K_R_least_45 {x1 : Int32} {x2 : Int32} {x3 : Int32} : frR (K_R_least_45 x1 x2 x3) := by
  unfold K_R_least_45
  repeat' first | with_reducible exact frR_rt | with_reducible exact frR_rd | with_reducible exact frR_ld | with_reducible refine frR_wr ?_ | with_reducible refine frR_sr ?_ | with_reducible exact frR_gd | with_reducible exact frR_gdZ | with_reducible exact fr_B_R_least_45 | with_reducible exact fr_K_R_least_72 | with_reducible refine frR_bn ?_ fun _ => ?_ | with_reducible refine frR_ite ?_ ?_ | with_reducible refine frR_lp fun _ => ?_ | omega
theorem fr_F_R_least {x1 : Int32} : frR (F_R_least x1) := by
  unfold F_R_least
  repeat' first | with_reducible exact frR_rt | with_reducible exact frR_rd | with_reducible exact frR_ld | with_reducible refine frR_wr ?_ | with_reducible refine frR_sr ?_ | with_reducible exact frR_gd | with_reducible exact frR_gdZ | with_reducible exact fr_F_R_isIn | with_reducible exact fr_F_R_watchSet | with_reducible exact fr_F_R_onesOf | with_reducible exact fr_K_R_least_45 | with_reducible refine frR_bn ?_ fun _ => ?_ | with_reducible refine frR_ite ?_ ?_ | omega
theorem fr_F_R_letter {x1 : Int32} {x2 : Int32} : frR (F_R_letter x1 x2) := by
  unfold F_R_letter
  repeat' first | with_reducible exact frR_rt | with_reducible exact frR_rd | with_reducible exact frR_ld | with_reducible refine frR_wr ?_ | with_reducible refine frR_sr ?_ | with_reducible exact frR_gd | with_reducible exact frR_gdZ | with_reducible exact fr_F_R_isIn | with_reducible refine frR_bn ?_ fun _ => ?_ | with_reducible refine frR_ite ?_ ?_ | omega
theorem fr_B_R_loan_18 {y : Int32} : frR (B_R_loan_18 y) := by
  unfold B_R_loan_18
  repeat' first | with_reducible exact frR_rt | with_reducible exact frR_rd | with_reducible exact frR_ld | with_reducible refine frR_wr ?_ | with_reducible refine frR_sr ?_ | with_reducible exact frR_gd | with_reducible exact frR_gdZ | with_reducible refine frR_bn ?_ fun _ => ?_ | with_reducible refine frR_ite ?_ ?_ | omega
theorem fr_K_R_loan_18 {x4 : Int32} : frR (K_R_loan_18 x4) := by
  unfold K_R_loan_18
  repeat' first | with_reducible exact frR_rt | with_reducible exact frR_rd | with_reducible exact frR_ld | with_reducible refine frR_wr ?_ | with_reducible refine frR_sr ?_ | with_reducible exact frR_gd | with_reducible exact frR_gdZ | with_reducible exact fr_B_R_loan_18 | with_reducible refine frR_bn ?_ fun _ => ?_ | with_reducible refine frR_ite ?_ ?_ | with_reducible refine frR_lp fun _ => ?_ | omega
theorem fr_F_R_loan {x1 : Int32} {x2 : Int32} {x3 : Int32} : frR (F_R_loan x1 x2 x3) := by
  unfold F_R_loan
  repeat' first | with_reducible exact frR_rt | with_reducible exact frR_rd | with_reducible exact frR_ld | with_reducible refine frR_wr ?_ | with_reducible refine frR_sr ?_ | with_reducible exact frR_gd | with_reducible exact frR_gdZ | with_reducible exact fr_K_R_loan_18 | with_reducible exact fr_F_R_isIn | with_reducible refine frR_bn ?_ fun _ => ?_ | with_reducible refine frR_ite ?_ ?_ | omega
theorem fr_B_R_look_181 {y : Int32 × Int32} : frR (B_R_look_181 y) := by
  unfold B_R_look_181
  repeat' first | with_reducible exact frR_rt | with_reducible exact frR_rd | with_reducible exact frR_ld | with_reducible refine frR_wr ?_ | with_reducible refine frR_sr ?_ | with_reducible exact frR_gd | with_reducible exact frR_gdZ | with_reducible exact fr_F_R_isStruck | with_reducible refine frR_bn ?_ fun _ => ?_ | with_reducible refine frR_ite ?_ ?_ | omega
theorem fr_K_R_look_181 {x2 : Int32} {x3 : Int32} : frR (K_R_look_181 x2 x3) := by
  unfold K_R_look_181
  repeat' first | with_reducible exact frR_rt | with_reducible exact frR_rd | with_reducible exact frR_ld | with_reducible refine frR_wr ?_ | with_reducible refine frR_sr ?_ | with_reducible exact frR_gd | with_reducible exact frR_gdZ | with_reducible exact fr_B_R_look_181 | with_reducible refine frR_bn ?_ fun _ => ?_ | with_reducible refine frR_ite ?_ ?_ | with_reducible refine frR_lp fun _ => ?_ | omega
theorem fr_F_R_look {x1 : Int32} : frR (F_R_look x1) := by
  unfold F_R_look
  repeat' first | with_reducible exact frR_rt | with_reducible exact frR_rd | with_reducible exact frR_ld | with_reducible refine frR_wr ?_ | with_reducible refine frR_sr ?_ | with_reducible exact frR_gd | with_reducible exact frR_gdZ | with_reducible exact fr_K_R_look_181 | with_reducible refine frR_bn ?_ fun _ => ?_ | with_reducible refine frR_ite ?_ ?_ | omega
theorem fr_B_R_choose_5 {x1 : Int32} {x2 : Int32} {y : Int32 × Int32} : frR (B_R_choose_5 x1 x2 y) := by
  unfold B_R_choose_5
  repeat' first | with_reducible exact frR_rt | with_reducible exact frR_rd | with_reducible exact frR_ld | with_reducible refine frR_wr ?_ | with_reducible refine frR_sr ?_ | with_reducible exact frR_gd | with_reducible exact frR_gdZ | with_reducible refine frR_bn ?_ fun _ => ?_ | with_reducible refine frR_ite ?_ ?_ | with_reducible refine frR_dvI ?_ | omega
theorem fr_K_R_choose_5 {x1 : Int32} {x2 : Int32} {x3 : Int32} {x4 : Int32} : frR (K_R_choose_5 x1 x2 x3 x4) := by
  unfold K_R_choose_5
  repeat' first | with_reducible exact frR_rt | with_reducible exact frR_rd | with_reducible exact frR_ld | with_reducible refine frR_wr ?_ | with_reducible refine frR_sr ?_ | with_reducible exact frR_gd | with_reducible exact frR_gdZ | with_reducible exact fr_B_R_choose_5 | with_reducible refine frR_bn ?_ fun _ => ?_ | with_reducible refine frR_ite ?_ ?_ | with_reducible refine frR_lp fun _ => ?_ | omega
theorem fr_F_R_choose {x1 : Int32} {x2 : Int32} : frR (F_R_choose x1 x2) := by
  unfold F_R_choose
  repeat' first | with_reducible exact frR_rt | with_reducible exact frR_rd | with_reducible exact frR_ld | with_reducible refine frR_wr ?_ | with_reducible refine frR_sr ?_ | with_reducible exact frR_gd | with_reducible exact frR_gdZ | with_reducible exact fr_K_R_choose_5 | with_reducible refine frR_bn ?_ fun _ => ?_ | with_reducible refine frR_ite ?_ ?_ | omega
theorem fr_B_R_named_19 {x1 : Int32} {y : Int32} : frR (B_R_named_19 x1 y) := by
  unfold B_R_named_19
  repeat' first | with_reducible exact frR_rt | with_reducible exact frR_rd | with_reducible exact frR_ld | with_reducible refine frR_wr ?_ | with_reducible refine frR_sr ?_ | with_reducible exact frR_gd | with_reducible exact frR_gdZ | with_reducible refine frR_bn ?_ fun _ => ?_ | with_reducible refine frR_ite ?_ ?_ | omega
theorem fr_B_R_named_59 {x1 : Int32} {x2 : Int32} {y : Int32 × Int32} : frR (B_R_named_59 x1 x2 y) := by
  unfold B_R_named_59
  repeat' first | with_reducible exact frR_rt | with_reducible exact frR_rd | with_reducible exact frR_ld | with_reducible refine frR_wr ?_ | with_reducible refine frR_sr ?_ | with_reducible exact frR_gd | with_reducible exact frR_gdZ | with_reducible refine frR_bn ?_ fun _ => ?_ | with_reducible refine frR_ite ?_ ?_ | omega
theorem fr_B_R_named_100 {x1 : Int32} {x2 : Int32} {x3 : Int32} {x4 : Int32} {y : Int32} : frR (B_R_named_100 x1 x2 x3 x4 y) := by
  unfold B_R_named_100
  repeat' first | with_reducible exact frR_rt | with_reducible exact frR_rd | with_reducible exact frR_ld | with_reducible refine frR_wr ?_ | with_reducible refine frR_sr ?_ | with_reducible exact frR_gd | with_reducible exact frR_gdZ | with_reducible exact fr_F_R_choose | with_reducible refine frR_bn ?_ fun _ => ?_ | with_reducible refine frR_ite ?_ ?_ | omega
theorem fr_K_R_named_153 {x1 : Int32} {x2 : Int32} {x3 : Int32} {x4 : Int32} : frR (K_R_named_153 x1 x2 x3 x4) := by
  unfold K_R_named_153
  repeat' first | with_reducible exact frR_rt | with_reducible exact frR_rd | with_reducible exact frR_ld | with_reducible refine frR_wr ?_ | with_reducible refine frR_sr ?_ | with_reducible exact frR_gd | with_reducible exact frR_gdZ | with_reducible refine frR_bn ?_ fun _ => ?_ | with_reducible refine frR_ite ?_ ?_ | omega
theorem fr_K_R_named_100 {x1 : Int32} {x2 : Int32} {x3 : Int32} {x4 : Int32} {x5 : Int32} : frR (K_R_named_100 x1 x2 x3 x4 x5) := by
  unfold K_R_named_100
  repeat' first | with_reducible exact frR_rt | with_reducible exact frR_rd | with_reducible exact frR_ld | with_reducible refine frR_wr ?_ | with_reducible refine frR_sr ?_ | with_reducible exact frR_gd | with_reducible exact frR_gdZ | with_reducible exact fr_B_R_named_100 | with_reducible exact fr_K_R_named_153 | with_reducible refine frR_bn ?_ fun _ => ?_ | with_reducible refine frR_ite ?_ ?_ | with_reducible refine frR_lp fun _ => ?_ | omega
theorem fr_B_R_named_92 {x1 : Int32} {x2 : Int32} {x3 : Int32} {y : Int32} : frR (B_R_named_92 x1 x2 x3 y) := by
  unfold B_R_named_92
  repeat' first | with_reducible exact frR_rt | with_reducible exact frR_rd | with_reducible exact frR_ld | with_reducible refine frR_wr ?_ | with_reducible refine frR_sr ?_ | with_reducible exact frR_gd | with_reducible exact frR_gdZ | with_reducible exact fr_K_R_named_100 | with_reducible refine frR_bn ?_ fun _ => ?_ | with_reducible refine frR_ite ?_ ?_ | omega
theorem fr_K_R_named_159 {x1 : Int32} {x2 : Int32} : frR (K_R_named_159 x1 x2) := by
  unfold K_R_named_159
  repeat' first | with_reducible exact frR_rt | with_reducible exact frR_rd | with_reducible exact frR_ld | with_reducible refine frR_wr ?_ | with_reducible refine frR_sr ?_ | with_reducible exact frR_gd | with_reducible exact frR_gdZ | with_reducible refine frR_bn ?_ fun _ => ?_ | with_reducible refine frR_ite ?_ ?_ | omega
theorem fr_K_R_named_92 {x1 : Int32} {x2 : Int32} {x3 : Int32} {x4 : Int32} : frR (K_R_named_92 x1 x2 x3 x4) := by
  unfold K_R_named_92
  repeat' first | with_reducible exact frR_rt | with_reducible exact frR_rd | with_reducible exact frR_ld | with_reducible refine frR_wr ?_ | with_reducible refine frR_sr ?_ | with_reducible exact frR_gd | with_reducible exact frR_gdZ | with_reducible exact fr_B_R_named_92 | with_reducible exact fr_K_R_named_159 | with_reducible refine frR_bn ?_ fun _ => ?_ | with_reducible refine frR_ite ?_ ?_ | with_reducible refine frR_lp fun _ => ?_ | omega
theorem fr_K_R_named_89 {x1 : Int32} {x2 : Int32} {x3 : Int32} : frR (K_R_named_89 x1 x2 x3) := by
  unfold K_R_named_89
  repeat' first | with_reducible exact frR_rt | with_reducible exact frR_rd | with_reducible exact frR_ld | with_reducible refine frR_wr ?_ | with_reducible refine frR_sr ?_ | with_reducible exact frR_gd | with_reducible exact frR_gdZ | with_reducible exact fr_K_R_named_92 | with_reducible refine frR_bn ?_ fun _ => ?_ | with_reducible refine frR_ite ?_ ?_ | omega
end FRM6
