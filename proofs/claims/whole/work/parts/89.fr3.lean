/-! what is left alone (printed by wip/tools/gen_fr.py) -/
section FRM3
theorem fr_B_Riddles_rows_80 {x1 : Int32} {y : Int32} : frA (B_Riddles_rows_80 x1 y) := by
  unfold B_Riddles_rows_80
  repeat' first | with_reducible exact frA_rt | with_reducible exact frA_rd | with_reducible exact frA_ld | with_reducible refine frA_wr ?_ | with_reducible refine frA_sr ?_ | with_reducible exact frA_gd | with_reducible exact frA_gdZ | with_reducible exact fr_K_Riddles_rows_88 | with_reducible refine frA_bn ?_ fun _ => ?_ | with_reducible refine frA_ite ?_ ?_ | omega
theorem fr_K_Riddles_rows_155 {x1 : Int32} : frA (K_Riddles_rows_155 x1) := by
  unfold K_Riddles_rows_155
  repeat' first | with_reducible exact frA_rt | with_reducible exact frA_rd | with_reducible exact frA_ld | with_reducible refine frA_wr ?_ | with_reducible refine frA_sr ?_ | with_reducible exact frA_gd | with_reducible exact frA_gdZ | with_reducible exact fr_F_A_within | with_reducible refine frA_bn ?_ fun _ => ?_ | with_reducible refine frA_ite ?_ ?_ | omega
theorem fr_K_Riddles_rows_80 {x1 : Int32} {x2 : Int32} : frA (K_Riddles_rows_80 x1 x2) := by
  unfold K_Riddles_rows_80
  repeat' first | with_reducible exact frA_rt | with_reducible exact frA_rd | with_reducible exact frA_ld | with_reducible refine frA_wr ?_ | with_reducible refine frA_sr ?_ | with_reducible exact frA_gd | with_reducible exact frA_gdZ | with_reducible exact fr_B_Riddles_rows_80 | with_reducible exact fr_K_Riddles_rows_155 | with_reducible refine frA_bn ?_ fun _ => ?_ | with_reducible refine frA_ite ?_ ?_ | with_reducible refine frA_lp fun _ => ?_ | omega
theorem fr_K_Riddles_rows_63 {x1 : Int32} : frA (K_Riddles_rows_63 x1) := by
  unfold K_Riddles_rows_63
  repeat' first | with_reducible exact frA_rt | with_reducible exact frA_rd | with_reducible exact frA_ld | with_reducible refine frA_wr ?_ | with_reducible refine frA_sr ?_ | with_reducible exact frA_gd | with_reducible exact frA_gdZ | with_reducible refine fr_F_Arrays_fill ?_ | with_reducible exact fr_K_Riddles_rows_80 | with_reducible refine frA_bn ?_ fun _ => ?_ | with_reducible refine frA_ite ?_ ?_ | omega
theorem fr_K_Riddles_rows_10 {x1 : Int32} {x2 : Int32} : frA (K_Riddles_rows_10 x1 x2) := by
  unfold K_Riddles_rows_10
  repeat' first | with_reducible exact frA_rt | with_reducible exact frA_rd | with_reducible exact frA_ld | with_reducible refine frA_wr ?_ | with_reducible refine frA_sr ?_ | with_reducible exact frA_gd | with_reducible exact frA_gdZ | with_reducible exact fr_B_Riddles_rows_10 | with_reducible exact fr_K_Riddles_rows_63 | with_reducible refine frA_bn ?_ fun _ => ?_ | with_reducible refine frA_ite ?_ ?_ | with_reducible refine frA_lp fun _ => ?_ | omega
theorem fr_F_Riddles_rows {x1 : Int32} : frA (F_Riddles_rows x1) := by
  unfold F_Riddles_rows
  repeat' first | with_reducible exact frA_rt | with_reducible exact frA_rd | with_reducible exact frA_ld | with_reducible refine frA_wr ?_ | with_reducible refine frA_sr ?_ | with_reducible exact frA_gd | with_reducible exact frA_gdZ | with_reducible refine fr_F_Arrays_fill ?_ | with_reducible exact fr_K_Riddles_rows_10 | with_reducible refine frA_bn ?_ fun _ => ?_ | with_reducible refine frA_ite ?_ ?_ | omega
theorem fr_F_A_named {x1 : Int32} : frA (F_A_named x1) := by
  unfold F_A_named
  repeat' first | with_reducible exact frA_rt | with_reducible exact frA_rd | with_reducible exact frA_ld | with_reducible refine frA_wr ?_ | with_reducible refine frA_sr ?_ | with_reducible exact frA_gd | with_reducible exact frA_gdZ | with_reducible exact fr_F_A_within | with_reducible exact fr_F_Riddles_rows | with_reducible refine frA_bn ?_ fun _ => ?_ | with_reducible refine frA_ite ?_ ?_ | omega
theorem fr_F_Riddles_groupOf {x1 : Int32} : frA (F_Riddles_groupOf x1) := by
  unfold F_Riddles_groupOf
  repeat' first | with_reducible exact frA_rt | with_reducible exact frA_rd | with_reducible exact frA_ld | with_reducible refine frA_wr ?_ | with_reducible refine frA_sr ?_ | with_reducible exact frA_gd | with_reducible exact frA_gdZ | with_reducible exact fr_F_A_within | with_reducible refine frA_bn ?_ fun _ => ?_ | with_reducible refine frA_ite ?_ ?_ | omega
theorem fr_B_Riddles_rename_2 {x1 : Int32} {x2 : Int32} {y : Int32} : frA (B_Riddles_rename_2 x1 x2 y) := by
  unfold B_Riddles_rename_2
  repeat' first | with_reducible exact frA_rt | with_reducible exact frA_rd | with_reducible exact frA_ld | with_reducible refine frA_wr ?_ | with_reducible refine frA_sr ?_ | with_reducible exact frA_gd | with_reducible exact frA_gdZ | with_reducible refine frA_bn ?_ fun _ => ?_ | with_reducible refine frA_ite ?_ ?_ | omega
theorem fr_K_Riddles_rename_2 {x1 : Int32} {x2 : Int32} {x3 : Int32} : frA (K_Riddles_rename_2 x1 x2 x3) := by
  unfold K_Riddles_rename_2
  repeat' first | with_reducible exact frA_rt | with_reducible exact frA_rd | with_reducible exact frA_ld | with_reducible refine frA_wr ?_ | with_reducible refine frA_sr ?_ | with_reducible exact frA_gd | with_reducible exact frA_gdZ | with_reducible exact fr_B_Riddles_rename_2 | with_reducible refine frA_bn ?_ fun _ => ?_ | with_reducible refine frA_ite ?_ ?_ | with_reducible refine frA_lp fun _ => ?_ | omega
theorem fr_F_Riddles_rename {x1 : Int32} {x2 : Int32} : frA (F_Riddles_rename x1 x2) := by
  unfold F_Riddles_rename
  repeat' first | with_reducible exact frA_rt | with_reducible exact frA_rd | with_reducible exact frA_ld | with_reducible refine frA_wr ?_ | with_reducible refine frA_sr ?_ | with_reducible exact frA_gd | with_reducible exact frA_gdZ | with_reducible exact fr_K_Riddles_rename_2 | with_reducible refine frA_bn ?_ fun _ => ?_ | with_reducible refine frA_ite ?_ ?_ | omega
theorem fr_B_Riddles_groups_2 {y : Int32} : frA (B_Riddles_groups_2 y) := by
  unfold B_Riddles_groups_2
  repeat' first | with_reducible exact frA_rt | with_reducible exact frA_rd | with_reducible exact frA_ld | with_reducible refine frA_wr ?_ | with_reducible refine frA_sr ?_ | with_reducible exact frA_gd | with_reducible exact frA_gdZ | with_reducible refine frA_bn ?_ fun _ => ?_ | with_reducible refine frA_ite ?_ ?_ | omega
theorem fr_B_Riddles_groups_26 {y : Int32 × Int32} : frA (B_Riddles_groups_26 y) := by
  unfold B_Riddles_groups_26
  repeat' first | with_reducible exact frA_rt | with_reducible exact frA_rd | with_reducible exact frA_ld | with_reducible refine frA_wr ?_ | with_reducible refine frA_sr ?_ | with_reducible exact frA_gd | with_reducible exact frA_gdZ | with_reducible exact fr_F_Table_at | with_reducible exact fr_F_Riddles_groupOf | with_reducible exact fr_F_Riddles_rename | with_reducible refine frA_bn ?_ fun _ => ?_ | with_reducible refine frA_ite ?_ ?_ | omega
theorem fr_K_Riddles_groups_26 {x1 : Int32} {x2 : Int32} : frA (K_Riddles_groups_26 x1 x2) := by
  unfold K_Riddles_groups_26
  repeat' first | with_reducible exact frA_rt | with_reducible exact frA_rd | with_reducible exact frA_ld | with_reducible refine frA_wr ?_ | with_reducible refine frA_sr ?_ | with_reducible exact frA_gd | with_reducible exact frA_gdZ | with_reducible exact fr_B_Riddles_groups_26 | with_reducible refine frA_bn ?_ fun _ => ?_ | with_reducible refine frA_ite ?_ ?_ | with_reducible refine frA_lp fun _ => ?_ | omega
theorem fr_K_Riddles_groups_21 : frA K_Riddles_groups_21 := by
  unfold K_Riddles_groups_21
  repeat' first | with_reducible exact frA_rt | with_reducible exact frA_rd | with_reducible exact frA_ld | with_reducible refine frA_wr ?_ | with_reducible refine frA_sr ?_ | with_reducible exact frA_gd | with_reducible exact frA_gdZ | with_reducible exact fr_K_Riddles_groups_26 | with_reducible refine frA_bn ?_ fun _ => ?_ | with_reducible refine frA_ite ?_ ?_ | omega
theorem fr_K_Riddles_groups_2 {x1 : Int32} : frA (K_Riddles_groups_2 x1) := by
  unfold K_Riddles_groups_2
  repeat' first | with_reducible exact frA_rt | with_reducible exact frA_rd | with_reducible exact frA_ld | with_reducible refine frA_wr ?_ | with_reducible refine frA_sr ?_ | with_reducible exact frA_gd | with_reducible exact frA_gdZ | with_reducible exact fr_B_Riddles_groups_2 | with_reducible exact fr_K_Riddles_groups_21 | with_reducible refine frA_bn ?_ fun _ => ?_ | with_reducible refine frA_ite ?_ ?_ | with_reducible refine frA_lp fun _ => ?_ | omega
theorem fr_F_Riddles_groups : frA F_Riddles_groups := by
  unfold F_Riddles_groups
  repeat' first | with_reducible exact frA_rt | with_reducible exact frA_rd | with_reducible exact frA_ld | with_reducible refine frA_wr ?_ | with_reducible refine frA_sr ?_ | with_reducible exact frA_gd | with_reducible exact frA_gdZ | with_reducible exact fr_K_Riddles_groups_2 | with_reducible refine frA_bn ?_ fun _ => ?_ | with_reducible refine frA_ite ?_ ?_ | omega
theorem fr_B_Riddles_groupsCanBe_15 {y : Int32} : frA (B_Riddles_groupsCanBe_15 y) := by
  unfold B_Riddles_groupsCanBe_15
  repeat' first | with_reducible exact frA_rt | with_reducible exact frA_rd | with_reducible exact frA_ld | with_reducible refine frA_wr ?_ | with_reducible refine frA_sr ?_ | with_reducible exact frA_gd | with_reducible exact frA_gdZ | with_reducible exact fr_F_Table_at | with_reducible exact fr_F_Riddles_groupOf | with_reducible refine frA_bn ?_ fun _ => ?_ | with_reducible refine frA_ite ?_ ?_ | omega
theorem fr_K_Riddles_groupsCanBe_15 {x1 : Int32} : frA (K_Riddles_groupsCanBe_15 x1) := by
  unfold K_Riddles_groupsCanBe_15
  repeat' first | with_reducible exact frA_rt | with_reducible exact frA_rd | with_reducible exact frA_ld | with_reducible refine frA_wr ?_ | with_reducible refine frA_sr ?_ | with_reducible exact frA_gd | with_reducible exact frA_gdZ | with_reducible exact fr_B_Riddles_groupsCanBe_15 | with_reducible refine frA_bn ?_ fun _ => ?_ | with_reducible refine frA_ite ?_ ?_ | with_reducible refine frA_lp fun _ => ?_ | omega
theorem fr_F_Riddles_groupsCanBe : frA F_Riddles_groupsCanBe := by
  unfold F_Riddles_groupsCanBe
  repeat' first | with_reducible exact frA_rt | with_reducible exact frA_rd | with_reducible exact frA_ld | with_reducible refine frA_wr ?_ | with_reducible refine frA_sr ?_ | with_reducible exact frA_gd | with_reducible exact frA_gdZ | with_reducible exact fr_F_Riddles_groups | with_reducible refine fr_F_Arrays_fill ?_ | with_reducible exact fr_K_Riddles_groupsCanBe_15 | with_reducible refine frA_bn ?_ fun _ => ?_ | with_reducible refine frA_ite ?_ ?_ | omega
theorem fr_B_Riddles_nextApart_2 {y : Int32} : frA (B_Riddles_nextApart_2 y) := by
  unfold B_Riddles_nextApart_2
  repeat' first | with_reducible exact frA_rt | with_reducible exact frA_rd | with_reducible exact frA_ld | with_reducible refine frA_wr ?_ | with_reducible refine frA_sr ?_ | with_reducible exact frA_gd | with_reducible exact frA_gdZ | with_reducible refine frA_bn ?_ fun _ => ?_ | with_reducible refine frA_ite ?_ ?_ | omega
theorem fr_K_Riddles_nextApart_2 {x2 : Int32} : frA (K_Riddles_nextApart_2 x2) := by
  unfold K_Riddles_nextApart_2
  repeat' first | with_reducible exact frA_rt | with_reducible exact frA_rd | with_reducible exact frA_ld | with_reducible refine frA_wr ?_ | with_reducible refine frA_sr ?_ | with_reducible exact frA_gd | with_reducible exact frA_gdZ | with_reducible exact fr_B_Riddles_nextApart_2 | with_reducible refine frA_bn ?_ fun _ => ?_ | with_reducible refine frA_ite ?_ ?_ | with_reducible refine frA_lp fun _ => ?_ | omega
theorem fr_F_Riddles_nextApart {x1 : Int32} : frA (F_Riddles_nextApart x1) := by
  unfold F_Riddles_nextApart
  repeat' first | with_reducible exact frA_rt | with_reducible exact frA_rd | with_reducible exact frA_ld | with_reducible refine frA_wr ?_ | with_reducible refine frA_sr ?_ | with_reducible exact frA_gd | with_reducible exact frA_gdZ | with_reducible exact fr_K_Riddles_nextApart_2 | with_reducible refine frA_bn ?_ fun _ => ?_ | with_reducible refine frA_ite ?_ ?_ | omega
theorem fr_K_Riddles_placeName_0 {f_Riddles_tryPersons : Int32 → Int32 → M Unit} {x1 : Int32} {x2 : Int32} (hf : ∀ a b, frA (f_Riddles_tryPersons a b)) : frA (K_Riddles_placeName_0 f_Riddles_tryPersons x1 x2) := by
  unfold K_Riddles_placeName_0
  repeat' first | with_reducible exact frA_rt | with_reducible exact frA_rd | with_reducible exact frA_ld | with_reducible refine frA_wr ?_ | with_reducible refine frA_sr ?_ | with_reducible exact frA_gd | with_reducible exact frA_gdZ | with_reducible exact fr_F_Riddles_nextApart | with_reducible exact hf _ _ | with_reducible refine frA_bn ?_ fun _ => ?_ | with_reducible refine frA_ite ?_ ?_ | omega
theorem fr_B_Riddles_tryPersons_2 {f_Riddles_placeName : Int32 → Int32 → M Unit} {x1 : Int32} {x2 : Int32} {y : Int32} (hf : ∀ a b, frA (f_Riddles_placeName a b)) : frA (B_Riddles_tryPersons_2 f_Riddles_placeName x1 x2 y) := by
  unfold B_Riddles_tryPersons_2
  repeat' first | with_reducible exact frA_rt | with_reducible exact frA_rd | with_reducible exact frA_ld | with_reducible refine frA_wr ?_ | with_reducible refine frA_sr ?_ | with_reducible exact frA_gd | with_reducible exact frA_gdZ | with_reducible exact hf _ _ | with_reducible refine frA_bn ?_ fun _ => ?_ | with_reducible refine frA_ite ?_ ?_ | omega
theorem fr_K_Riddles_tryPersons_2 {f_Riddles_placeName : Int32 → Int32 → M Unit} {x1 : Int32} {x2 : Int32} {x3 : Int32} (hf : ∀ a b, frA (f_Riddles_placeName a b)) : frA (K_Riddles_tryPersons_2 f_Riddles_placeName x1 x2 x3) := by
  unfold K_Riddles_tryPersons_2
  repeat' first | with_reducible exact frA_rt | with_reducible exact frA_rd | with_reducible exact frA_ld | with_reducible refine frA_wr ?_ | with_reducible refine frA_sr ?_ | with_reducible exact frA_gd | with_reducible exact frA_gdZ | with_reducible exact fr_B_Riddles_tryPersons_2 hf | with_reducible exact hf _ _ | with_reducible refine frA_bn ?_ fun _ => ?_ | with_reducible refine frA_ite ?_ ?_ | with_reducible refine frA_lp fun _ => ?_ | omega
theorem fr_K_Riddles_tryPersons_0 {f_Riddles_placeName : Int32 → Int32 → M Unit} {x1 : Int32} {x2 : Int32} (hf : ∀ a b, frA (f_Riddles_placeName a b)) : frA (K_Riddles_tryPersons_0 f_Riddles_placeName x1 x2) := by
  unfold K_Riddles_tryPersons_0
  repeat' first | with_reducible exact frA_rt | with_reducible exact frA_rd | with_reducible exact frA_ld | with_reducible refine frA_wr ?_ | with_reducible refine frA_sr ?_ | with_reducible exact frA_gd | with_reducible exact frA_gdZ | with_reducible exact fr_K_Riddles_tryPersons_2 hf | with_reducible exact hf _ _ | with_reducible refine frA_bn ?_ fun _ => ?_ | with_reducible refine frA_ite ?_ ?_ | omega
theorem fr_G_Riddles_placeName : ∀ (n : Nat) (a b : Int32), frA (G_Riddles_placeName n a b) := by
  intro n
  induction n with
  | zero => intro a b; exact frA_fl
  | succ n ih => intro a b; exact fr_K_Riddles_placeName_0 fun _ _ => fr_K_Riddles_tryPersons_0 ih
theorem fr_F_Riddles_placeName {a b : Int32} : frA (F_Riddles_placeName a b) := fr_G_Riddles_placeName 13 a b
theorem fr_F_Riddles_fewestNamed : frA F_Riddles_fewestNamed := by
  unfold F_Riddles_fewestNamed
  repeat' first | with_reducible exact frA_rt | with_reducible exact frA_rd | with_reducible exact frA_ld | with_reducible refine frA_wr ?_ | with_reducible refine frA_sr ?_ | with_reducible exact frA_gd | with_reducible exact frA_gdZ | with_reducible exact fr_F_Riddles_groupsCanBe | with_reducible exact fr_F_Riddles_placeName | with_reducible refine frA_bn ?_ fun _ => ?_ | with_reducible refine frA_ite ?_ ?_ | omega
theorem fr_F_A_names {x1 : Int32} : frA (F_A_names x1) := by
  unfold F_A_names
  repeat' first | with_reducible exact frA_rt | with_reducible exact frA_rd | with_reducible exact frA_ld | with_reducible refine frA_wr ?_ | with_reducible refine frA_sr ?_ | with_reducible exact frA_gd | with_reducible exact frA_gdZ | with_reducible exact fr_F_Riddles_groups | with_reducible exact fr_F_Riddles_groupsCanBe | with_reducible exact fr_F_Riddles_fewestNamed | with_reducible refine frA_bn ?_ fun _ => ?_ | with_reducible refine frA_ite ?_ ?_ | omega
theorem fr_B_Port_bestCatch_23 {x1 : Int32} {x2 : Int32} {x3 : Int32} {x4 : Int32} {x5 : Int32} {y : Int32 × Int32} : frA (B_Port_bestCatch_23 x1 x2 x3 x4 x5 y) := by
  unfold B_Port_bestCatch_23
  repeat' first | with_reducible exact frA_rt | with_reducible exact frA_rd | with_reducible exact frA_ld | with_reducible refine frA_wr ?_ | with_reducible refine frA_sr ?_ | with_reducible exact frA_gd | with_reducible exact frA_gdZ | with_reducible exact fr_F_A_within | with_reducible refine frA_bn ?_ fun _ => ?_ | with_reducible refine frA_ite ?_ ?_ | omega
theorem fr_K_Port_bestCatch_109 {x1 : Int32} {x2 : Int32} {x3 : Int32} {x4 : Int32} {x5 : Int32} {x6 : Int32} : frA (K_Port_bestCatch_109 x1 x2 x3 x4 x5 x6) := by
  unfold K_Port_bestCatch_109
  repeat' first | with_reducible exact frA_rt | with_reducible exact frA_rd | with_reducible exact frA_ld | with_reducible refine frA_wr ?_ | with_reducible refine frA_sr ?_ | with_reducible exact frA_gd | with_reducible exact frA_gdZ | with_reducible refine frA_bn ?_ fun _ => ?_ | with_reducible refine frA_ite ?_ ?_ | omega
theorem fr_K_Port_bestCatch_23 {x1 : Int32} {x2 : Int32} {x3 : Int32} {x4 : Int32} {x5 : Int32} {x6 : Int32} {x7 : Int32} : frA (K_Port_bestCatch_23 x1 x2 x3 x4 x5 x6 x7) := by
  unfold K_Port_bestCatch_23
  repeat' first | with_reducible exact frA_rt | with_reducible exact frA_rd | with_reducible exact frA_ld | with_reducible refine frA_wr ?_ | with_reducible refine frA_sr ?_ | with_reducible exact frA_gd | with_reducible exact frA_gdZ | with_reducible exact fr_B_Port_bestCatch_23 | with_reducible exact fr_K_Port_bestCatch_109 | with_reducible refine frA_bn ?_ fun _ => ?_ | with_reducible refine frA_ite ?_ ?_ | with_reducible refine frA_lp fun _ => ?_ | omega
theorem fr_B_Port_bestCatch_8 {x1 : Int32} {x2 : Int32} {y : Int32 × Int32 × Int32} : frA (B_Port_bestCatch_8 x1 x2 y) := by
  unfold B_Port_bestCatch_8
  repeat' first | with_reducible exact frA_rt | with_reducible exact frA_rd | with_reducible exact frA_ld | with_reducible refine frA_wr ?_ | with_reducible refine frA_sr ?_ | with_reducible exact frA_gd | with_reducible exact frA_gdZ | with_reducible exact fr_K_Port_bestCatch_23 | with_reducible refine frA_bn ?_ fun _ => ?_ | with_reducible refine frA_ite ?_ ?_ | omega
theorem fr_K_Port_bestCatch_128 {x2 : Int32} {x3 : Int32} {x4 : Int32} : frA (K_Port_bestCatch_128 x2 x3 x4) := by
  unfold K_Port_bestCatch_128
  repeat' first | with_reducible exact frA_rt | with_reducible exact frA_rd | with_reducible exact frA_ld | with_reducible refine frA_wr ?_ | with_reducible refine frA_sr ?_ | with_reducible exact frA_gd | with_reducible exact frA_gdZ | with_reducible refine frA_bn ?_ fun _ => ?_ | with_reducible refine frA_ite ?_ ?_ | omega
theorem fr_K_Port_bestCatch_8 {x1 : Int32} {x2 : Int32} {x3 : Int32} {x4 : Int32} {x5 : Int32} : frA (K_Port_bestCatch_8 x1 x2 x3 x4 x5) := by
  unfold K_Port_bestCatch_8
  repeat' first | with_reducible exact frA_rt | with_reducible exact frA_rd | with_reducible exact frA_ld | with_reducible refine frA_wr ?_ | with_reducible refine frA_sr ?_ | with_reducible exact frA_gd | with_reducible exact frA_gdZ | with_reducible exact fr_B_Port_bestCatch_8 | with_reducible exact fr_K_Port_bestCatch_128 | with_reducible refine frA_bn ?_ fun _ => ?_ | with_reducible refine frA_ite ?_ ?_ | with_reducible refine frA_lp fun _ => ?_ | omega
theorem fr_F_Port_bestCatch {x1 : Int32} {x2 : Int32} : frA (F_Port_bestCatch x1 x2) := by
  unfold F_Port_bestCatch
  repeat' first | with_reducible exact frA_rt | with_reducible exact frA_rd | with_reducible exact frA_ld | with_reducible refine frA_wr ?_ | with_reducible refine frA_sr ?_ | with_reducible exact frA_gd | with_reducible exact frA_gdZ | with_reducible exact fr_K_Port_bestCatch_8 | with_reducible refine frA_bn ?_ fun _ => ?_ | with_reducible refine frA_ite ?_ ?_ | omega
theorem fr_F_A_net {x1 : Int32} {x2 : Int32} : frA (F_A_net x1 x2) := by
  unfold F_A_net
  repeat' first | with_reducible exact frA_rt | with_reducible exact frA_rd | with_reducible exact frA_ld | with_reducible refine frA_wr ?_ | with_reducible refine frA_sr ?_ | with_reducible exact frA_gd | with_reducible exact frA_gdZ | with_reducible exact fr_F_A_within | with_reducible exact fr_F_Port_bestCatch | with_reducible refine frA_bn ?_ fun _ => ?_ | with_reducible refine frA_ite ?_ ?_ | omega
theorem fr_B_Riddles_mirrored_29 {x1 : Int32} {y : Int32} : frA (B_Riddles_mirrored_29 x1 y) := by
  unfold B_Riddles_mirrored_29
  repeat' first | with_reducible exact frA_rt | with_reducible exact frA_rd | with_reducible exact frA_ld | with_reducible refine frA_wr ?_ | with_reducible refine frA_sr ?_ | with_reducible exact frA_gd | with_reducible exact frA_gdZ | with_reducible exact fr_F_Table_at | with_reducible refine frA_bn ?_ fun _ => ?_ | with_reducible refine frA_ite ?_ ?_ | omega
theorem fr_K_Riddles_mirrored_29 {x1 : Int32} {x2 : Int32} : frA (K_Riddles_mirrored_29 x1 x2) := by
  unfold K_Riddles_mirrored_29
  repeat' first | with_reducible exact frA_rt | with_reducible exact frA_rd | with_reducible exact frA_ld | with_reducible refine frA_wr ?_ | with_reducible refine frA_sr ?_ | with_reducible exact frA_gd | with_reducible exact frA_gdZ | with_reducible exact fr_B_Riddles_mirrored_29 | with_reducible refine frA_bn ?_ fun _ => ?_ | with_reducible refine frA_ite ?_ ?_ | with_reducible refine frA_lp fun _ => ?_ | omega
theorem fr_F_Riddles_mirrored : frA F_Riddles_mirrored := by
  unfold F_Riddles_mirrored
  repeat' first | with_reducible exact frA_rt | with_reducible exact frA_rd | with_reducible exact frA_ld | with_reducible refine frA_wr ?_ | with_reducible refine frA_sr ?_ | with_reducible exact frA_gd | with_reducible exact frA_gdZ | with_reducible exact fr_K_Riddles_mirrored_29 | with_reducible refine frA_bn ?_ fun _ => ?_ | with_reducible refine frA_ite ?_ ?_ | omega
theorem fr_F_Riddles_shiftAt {x1 : Int32} : frA (F_Riddles_shiftAt x1) := by
  unfold F_Riddles_shiftAt
  repeat' first | with_reducible exact frA_rt | with_reducible exact frA_rd | with_reducible exact frA_ld | with_reducible refine frA_wr ?_ | with_reducible refine frA_sr ?_ | with_reducible exact frA_gd | with_reducible exact frA_gdZ | with_reducible exact fr_F_Table_at | with_reducible refine frA_bn ?_ fun _ => ?_ | with_reducible refine frA_ite ?_ ?_ | with_reducible refine frA_dvI ?_ | omega
theorem fr_B_Riddles_shift_43 {x1 : Int32} {x2 : Int32} {y : Int32} : frA (B_Riddles_shift_43 x1 x2 y) := by
  unfold B_Riddles_shift_43
  repeat' first | with_reducible exact frA_rt | with_reducible exact frA_rd | with_reducible exact frA_ld | with_reducible refine frA_wr ?_ | with_reducible refine frA_sr ?_ | with_reducible exact frA_gd | with_reducible exact frA_gdZ | with_reducible exact fr_F_Riddles_shiftAt | with_reducible refine frA_bn ?_ fun _ => ?_ | with_reducible refine frA_ite ?_ ?_ | omega
theorem fr_K_Riddles_shift_43 {x1 : Int32} {x2 : Int32} {x3 : Int32} : frA (K_Riddles_shift_43 x1 x2 x3) := by
  unfold K_Riddles_shift_43
  repeat' first | with_reducible exact frA_rt | with_reducible exact frA_rd | with_reducible exact frA_ld | with_reducible refine frA_wr ?_ | with_reducible refine frA_sr ?_ | with_reducible exact frA_gd | with_reducible exact frA_gdZ | with_reducible exact fr_B_Riddles_shift_43 | with_reducible refine frA_bn ?_ fun _ => ?_ | with_reducible refine frA_ite ?_ ?_ | with_reducible refine frA_lp fun _ => ?_ | omega
theorem fr_F_Riddles_shift : frA F_Riddles_shift := by
  unfold F_Riddles_shift
  repeat' first | with_reducible exact frA_rt | with_reducible exact frA_rd | with_reducible exact frA_ld | with_reducible refine frA_wr ?_ | with_reducible refine frA_sr ?_ | with_reducible exact frA_gd | with_reducible exact frA_gdZ | with_reducible exact fr_K_Riddles_shift_43 | with_reducible exact fr_F_Riddles_shiftAt | with_reducible refine frA_bn ?_ fun _ => ?_ | with_reducible refine frA_ite ?_ ?_ | omega
theorem fr_F_A_notes {x1 : Int32} : frA (F_A_notes x1) := by
  unfold F_A_notes
  repeat' first | with_reducible exact frA_rt | with_reducible exact frA_rd | with_reducible exact frA_ld | with_reducible refine frA_wr ?_ | with_reducible refine frA_sr ?_ | with_reducible exact frA_gd | with_reducible exact frA_gdZ | with_reducible exact fr_F_Riddles_shift | with_reducible exact fr_F_Riddles_mirrored | with_reducible refine frA_bn ?_ fun _ => ?_ | with_reducible refine frA_ite ?_ ?_ | omega
theorem fr_F_A_of {x1 : Int32} {x2 : Int32} : frA (F_A_of x1 x2) := by
  unfold F_A_of
  repeat' first | with_reducible exact frA_rt | with_reducible exact frA_rd | with_reducible exact frA_ld | with_reducible refine frA_wr ?_ | with_reducible refine frA_sr ?_ | with_reducible exact frA_gd | with_reducible exact frA_gdZ | with_reducible exact fr_F_World_isAlias | with_reducible refine fr_F_Law_tells ?_ | with_reducible refine frA_bn ?_ fun _ => ?_ | with_reducible refine frA_ite ?_ ?_ | omega
theorem fr_F_A_pair {x1 : Int32} {x2 : Int32} {x3 : Int32} : frA (F_A_pair x1 x2 x3) := by
  unfold F_A_pair
  repeat' first | with_reducible exact frA_rt | with_reducible exact frA_rd | with_reducible exact frA_ld | with_reducible refine frA_wr ?_ | with_reducible refine frA_sr ?_ | with_reducible exact frA_gd | with_reducible exact frA_gdZ | with_reducible refine fr_F_Table_wipe ?_ | with_reducible exact fr_F_A_within | with_reducible refine fr_F_Table_put ?_ | with_reducible refine frA_bn ?_ fun _ => ?_ | with_reducible refine frA_ite ?_ ?_ | omega
theorem fr_F_World_addPerson {r0 : Nat} {x1 : Int32} {x2 : Int32} (hr0 : r0 + 3 < 207) : frA (F_World_addPerson r0 x1 x2) := by
  unfold F_World_addPerson
  repeat' first | with_reducible exact frA_rt | with_reducible exact frA_rd | with_reducible exact frA_ld | with_reducible refine frA_wr ?_ | with_reducible refine frA_sr ?_ | with_reducible exact frA_gd | with_reducible exact frA_gdZ | with_reducible exact fr_F_A_within | with_reducible refine frA_bn ?_ fun _ => ?_ | with_reducible refine frA_ite ?_ ?_ | omega
theorem fr_F_A_person {x1 : Int32} {x2 : Int32} : frA (F_A_person x1 x2) := by
  unfold F_A_person
  repeat' first | with_reducible exact frA_rt | with_reducible exact frA_rd | with_reducible exact frA_ld | with_reducible refine frA_wr ?_ | with_reducible refine frA_sr ?_ | with_reducible exact frA_gd | with_reducible exact frA_gdZ | with_reducible refine fr_F_World_addPerson ?_ | with_reducible exact fr_F_A_forget | with_reducible refine frA_bn ?_ fun _ => ?_ | with_reducible refine frA_ite ?_ ?_ | omega
theorem fr_B_Port_minutesOnMap_7 {x2 : Int32} {y : Int32 × Int32} : frA (B_Port_minutesOnMap_7 x2 y) := by
  unfold B_Port_minutesOnMap_7
  repeat' first | with_reducible exact frA_rt | with_reducible exact frA_rd | with_reducible exact frA_ld | with_reducible refine frA_wr ?_ | with_reducible refine frA_sr ?_ | with_reducible exact frA_gd | with_reducible exact frA_gdZ | with_reducible exact fr_F_Port_besideAny | with_reducible refine frA_bn ?_ fun _ => ?_ | with_reducible refine frA_ite ?_ ?_ | omega
theorem fr_K_Port_minutesOnMap_7 {x2 : Int32} {x3 : Int32} {x4 : Int32} : frA (K_Port_minutesOnMap_7 x2 x3 x4) := by
  unfold K_Port_minutesOnMap_7
  repeat' first | with_reducible exact frA_rt | with_reducible exact frA_rd | with_reducible exact frA_ld | with_reducible refine frA_wr ?_ | with_reducible refine frA_sr ?_ | with_reducible exact frA_gd | with_reducible exact frA_gdZ | with_reducible exact fr_B_Port_minutesOnMap_7 | with_reducible refine frA_bn ?_ fun _ => ?_ | with_reducible refine frA_ite ?_ ?_ | with_reducible refine frA_lp fun _ => ?_ | omega
theorem fr_F_Port_minutesOnMap {x1 : Int32} {x2 : Int32} : frA (F_Port_minutesOnMap x1 x2) := by
  unfold F_Port_minutesOnMap
  repeat' first | with_reducible exact frA_rt | with_reducible exact frA_rd | with_reducible exact frA_ld | with_reducible refine frA_wr ?_ | with_reducible refine frA_sr ?_ | with_reducible exact frA_gd | with_reducible exact frA_gdZ | with_reducible exact fr_K_Port_minutesOnMap_7 | with_reducible refine frA_bn ?_ fun _ => ?_ | with_reducible refine frA_ite ?_ ?_ | omega
theorem fr_K_Port_canFollow_40 {x1 : Int32} {x2 : Int32} {x4 : Int32} : frA (K_Port_canFollow_40 x1 x2 x4) := by
  unfold K_Port_canFollow_40
  repeat' first | with_reducible exact frA_rt | with_reducible exact frA_rd | with_reducible exact frA_ld | with_reducible refine frA_wr ?_ | with_reducible refine frA_sr ?_ | with_reducible exact frA_gd | with_reducible exact frA_gdZ | with_reducible exact fr_F_Table_at | with_reducible exact fr_F_Port_minutesOnMap | with_reducible refine frA_bn ?_ fun _ => ?_ | with_reducible refine frA_ite ?_ ?_ | omega
theorem fr_F_Port_canFollow {x1 : Int32} {x2 : Int32} : frA (F_Port_canFollow x1 x2) := by
  unfold F_Port_canFollow
  repeat' first | with_reducible exact frA_rt | with_reducible exact frA_rd | with_reducible exact frA_ld | with_reducible refine frA_wr ?_ | with_reducible refine frA_sr ?_ | with_reducible exact frA_gd | with_reducible exact frA_gdZ | with_reducible exact fr_F_Table_at | with_reducible exact fr_K_Port_canFollow_40 | with_reducible refine frA_bn ?_ fun _ => ?_ | with_reducible refine frA_ite ?_ ?_ | omega
theorem fr_B_Port_fewestPersons_27 {x1 : Int32} {x2 : Int32} {y : Int32 × Int32} : frA (B_Port_fewestPersons_27 x1 x2 y) := by
  unfold B_Port_fewestPersons_27
  repeat' first | with_reducible exact frA_rt | with_reducible exact frA_rd | with_reducible exact frA_ld | with_reducible refine frA_wr ?_ | with_reducible refine frA_sr ?_ | with_reducible exact frA_gd | with_reducible exact frA_gdZ | with_reducible exact fr_F_Port_canFollow | with_reducible refine frA_bn ?_ fun _ => ?_ | with_reducible refine frA_ite ?_ ?_ | omega
theorem fr_K_Port_fewestPersons_60 {x1 : Int32} {x2 : Int32} {x3 : Int32} : frA (K_Port_fewestPersons_60 x1 x2 x3) := by
  unfold K_Port_fewestPersons_60
  repeat' first | with_reducible exact frA_rt | with_reducible exact frA_rd | with_reducible exact frA_ld | with_reducible refine frA_wr ?_ | with_reducible refine frA_sr ?_ | with_reducible exact frA_gd | with_reducible exact frA_gdZ | with_reducible refine fr_F_Matching_allow ?_ | with_reducible refine frA_bn ?_ fun _ => ?_ | with_reducible refine frA_ite ?_ ?_ | omega
theorem fr_K_Port_fewestPersons_27 {x1 : Int32} {x2 : Int32} {x3 : Int32} {x4 : Int32} : frA (K_Port_fewestPersons_27 x1 x2 x3 x4) := by
  unfold K_Port_fewestPersons_27
  repeat' first | with_reducible exact frA_rt | with_reducible exact frA_rd | with_reducible exact frA_ld | with_reducible refine frA_wr ?_ | with_reducible refine frA_sr ?_ | with_reducible exact frA_gd | with_reducible exact frA_gdZ | with_reducible exact fr_B_Port_fewestPersons_27 | with_reducible exact fr_K_Port_fewestPersons_60 | with_reducible refine frA_bn ?_ fun _ => ?_ | with_reducible refine frA_ite ?_ ?_ | with_reducible refine frA_lp fun _ => ?_ | omega
theorem fr_B_Port_fewestPersons_17 {x1 : Int32} {y : Int32} : frA (B_Port_fewestPersons_17 x1 y) := by
  unfold B_Port_fewestPersons_17
  repeat' first | with_reducible exact frA_rt | with_reducible exact frA_rd | with_reducible exact frA_ld | with_reducible refine frA_wr ?_ | with_reducible refine frA_sr ?_ | with_reducible exact frA_gd | with_reducible exact frA_gdZ | with_reducible exact fr_K_Port_fewestPersons_27 | with_reducible refine fr_F_Matching_most ?_ | with_reducible refine frA_bn ?_ fun _ => ?_ | with_reducible refine frA_ite ?_ ?_ | omega
theorem fr_K_Port_fewestPersons_17 {x1 : Int32} {x2 : Int32} : frA (K_Port_fewestPersons_17 x1 x2) := by
  unfold K_Port_fewestPersons_17
  repeat' first | with_reducible exact frA_rt | with_reducible exact frA_rd | with_reducible exact frA_ld | with_reducible refine frA_wr ?_ | with_reducible refine frA_sr ?_ | with_reducible exact frA_gd | with_reducible exact frA_gdZ | with_reducible exact fr_B_Port_fewestPersons_17 | with_reducible refine frA_bn ?_ fun _ => ?_ | with_reducible refine frA_ite ?_ ?_ | with_reducible refine frA_lp fun _ => ?_ | omega
theorem fr_F_Port_fewestPersons : frA F_Port_fewestPersons := by
  unfold F_Port_fewestPersons
  repeat' first | with_reducible exact frA_rt | with_reducible exact frA_rd | with_reducible exact frA_ld | with_reducible refine frA_wr ?_ | with_reducible refine frA_sr ?_ | with_reducible exact frA_gd | with_reducible exact frA_gdZ | with_reducible exact fr_F_Port_drawMap | with_reducible exact fr_K_Port_fewestPersons_17 | with_reducible refine frA_bn ?_ fun _ => ?_ | with_reducible refine frA_ite ?_ ?_ | omega
theorem fr_F_Port_minutes {x1 : Int32} {x2 : Int32} : frA (F_Port_minutes x1 x2) := by
  unfold F_Port_minutes
  repeat' first | with_reducible exact frA_rt | with_reducible exact frA_rd | with_reducible exact frA_ld | with_reducible refine frA_wr ?_ | with_reducible refine frA_sr ?_ | with_reducible exact frA_gd | with_reducible exact frA_gdZ | with_reducible exact fr_F_Port_drawMap | with_reducible exact fr_F_Port_minutesOnMap | with_reducible refine frA_bn ?_ fun _ => ?_ | with_reducible refine frA_ite ?_ ?_ | omega
theorem fr_F_A_persons {x1 : Int32} {x2 : Int32} : frA (F_A_persons x1 x2) := by
  unfold F_A_persons
  repeat' first | with_reducible exact frA_rt | with_reducible exact frA_rd | with_reducible exact frA_ld | with_reducible refine frA_wr ?_ | with_reducible refine frA_sr ?_ | with_reducible exact frA_gd | with_reducible exact frA_gdZ | with_reducible exact fr_F_Port_fewestPersons | with_reducible exact fr_F_A_within | with_reducible exact fr_F_Port_minutes | with_reducible refine frA_bn ?_ fun _ => ?_ | with_reducible refine frA_ite ?_ ?_ | omega
theorem fr_F_A_says {x1 : Int32} {x2 : Int32} {x3 : Int32} : frA (F_A_says x1 x2 x3) := by
  unfold F_A_says
  repeat' first | with_reducible exact frA_rt | with_reducible exact frA_rd | with_reducible exact frA_ld | with_reducible refine frA_wr ?_ | with_reducible refine frA_sr ?_ | with_reducible exact frA_gd | with_reducible exact frA_gdZ | with_reducible refine fr_F_Table_wipe ?_ | with_reducible exact fr_F_A_within | with_reducible refine fr_F_Table_put ?_ | with_reducible refine frA_bn ?_ fun _ => ?_ | with_reducible refine frA_ite ?_ ?_ | omega
theorem fr_F_World_change1 {r0 : Nat} {x1 : Int32} {x2 : Int32} {x3 : Int32} {x4 : Int32} (hr0 : r0 + 0 < 207) : frA (F_World_change1 r0 x1 x2 x3 x4) := by
  unfold F_World_change1
  repeat' first | with_reducible exact frA_rt | with_reducible exact frA_rd | with_reducible exact frA_ld | with_reducible refine frA_wr ?_ | with_reducible refine frA_sr ?_ | with_reducible exact frA_gd | with_reducible exact frA_gdZ | with_reducible exact fr_F_A_within | with_reducible refine frA_bn ?_ fun _ => ?_ | with_reducible refine frA_ite ?_ ?_ | omega
theorem fr_F_World_change0 {r0 : Nat} {x1 : Int32} {x2 : Int32} {x3 : Int32} (hr0 : r0 + 9 < 207) : frA (F_World_change0 r0 x1 x2 x3) := by
  unfold F_World_change0
  repeat' first | with_reducible exact frA_rt | with_reducible exact frA_rd | with_reducible exact frA_ld | with_reducible refine frA_wr ?_ | with_reducible refine frA_sr ?_ | with_reducible exact frA_gd | with_reducible exact frA_gdZ | with_reducible refine fr_F_World_change1 ?_ | with_reducible refine frA_bn ?_ fun _ => ?_ | with_reducible refine frA_ite ?_ ?_ | omega
theorem fr_F_A_set {x1 : Int32} {x2 : Int32} {x3 : Int32} : frA (F_A_set x1 x2 x3) := by
  unfold F_A_set
  repeat' first | with_reducible exact frA_rt | with_reducible exact frA_rd | with_reducible exact frA_ld | with_reducible refine frA_wr ?_ | with_reducible refine frA_sr ?_ | with_reducible exact frA_gd | with_reducible exact frA_gdZ | with_reducible refine fr_F_World_change0 ?_ | with_reducible exact fr_F_A_forget | with_reducible refine frA_bn ?_ fun _ => ?_ | with_reducible refine frA_ite ?_ ?_ | omega
theorem fr_B_Riddles_toGet_4 {x1 : Int32} {y : Int32 × Int32} : frA (B_Riddles_toGet_4 x1 y) := by
  unfold B_Riddles_toGet_4
  repeat' first | with_reducible exact frA_rt | with_reducible exact frA_rd | with_reducible exact frA_ld | with_reducible refine frA_wr ?_ | with_reducible refine frA_sr ?_ | with_reducible exact frA_gd | with_reducible exact frA_gdZ | with_reducible exact fr_F_Table_at | with_reducible refine frA_bn ?_ fun _ => ?_ | with_reducible refine frA_ite ?_ ?_ | omega
theorem fr_K_Riddles_toGet_4 {x1 : Int32} {x2 : Int32} {x3 : Int32} : frA (K_Riddles_toGet_4 x1 x2 x3) := by
  unfold K_Riddles_toGet_4
  repeat' first | with_reducible exact frA_rt | with_reducible exact frA_rd | with_reducible exact frA_ld | with_reducible refine frA_wr ?_ | with_reducible refine frA_sr ?_ | with_reducible exact frA_gd | with_reducible exact frA_gdZ | with_reducible exact fr_B_Riddles_toGet_4 | with_reducible refine frA_bn ?_ fun _ => ?_ | with_reducible refine frA_ite ?_ ?_ | with_reducible refine frA_lp fun _ => ?_ | omega
theorem fr_F_Riddles_toGet {x1 : Int32} : frA (F_Riddles_toGet x1) := by
  unfold F_Riddles_toGet
  repeat' first | with_reducible exact frA_rt | with_reducible exact frA_rd | with_reducible exact frA_ld | with_reducible refine frA_wr ?_ | with_reducible refine frA_sr ?_ | with_reducible exact frA_gd | with_reducible exact frA_gdZ | with_reducible exact fr_K_Riddles_toGet_4 | with_reducible refine frA_bn ?_ fun _ => ?_ | with_reducible refine frA_ite ?_ ?_ | omega
theorem fr_B_Riddles_fewestGifts_2 {y : Int32} : frA (B_Riddles_fewestGifts_2 y) := by
  unfold B_Riddles_fewestGifts_2
  repeat' first | with_reducible exact frA_rt | with_reducible exact frA_rd | with_reducible exact frA_ld | with_reducible refine frA_wr ?_ | with_reducible refine frA_sr ?_ | with_reducible exact frA_gd | with_reducible exact frA_gdZ | with_reducible exact fr_F_Riddles_toGet | with_reducible refine frA_bn ?_ fun _ => ?_ | with_reducible refine frA_ite ?_ ?_ | omega
theorem fr_B_Riddles_fewestGifts_47 {x1 : Int32} {y : Int32 × Int32 × Int32} : frA (B_Riddles_fewestGifts_47 x1 y) := by
  unfold B_Riddles_fewestGifts_47
  repeat' first | with_reducible exact frA_rt | with_reducible exact frA_rd | with_reducible exact frA_ld | with_reducible refine frA_wr ?_ | with_reducible refine frA_sr ?_ | with_reducible exact frA_gd | with_reducible exact frA_gdZ | with_reducible refine frA_bn ?_ fun _ => ?_ | with_reducible refine frA_ite ?_ ?_ | omega
theorem fr_K_Riddles_fewestGifts_95 {x1 : Int32} {x2 : Int32} {x3 : Int32} : frA (K_Riddles_fewestGifts_95 x1 x2 x3) := by
  unfold K_Riddles_fewestGifts_95
  repeat' first | with_reducible exact frA_rt | with_reducible exact frA_rd | with_reducible exact frA_ld | with_reducible refine frA_wr ?_ | with_reducible refine frA_sr ?_ | with_reducible exact frA_gd | with_reducible exact frA_gdZ | with_reducible refine frA_bn ?_ fun _ => ?_ | with_reducible refine frA_ite ?_ ?_ | omega
theorem fr_K_Riddles_fewestGifts_47 {x1 : Int32} {x2 : Int32} {x3 : Int32} {x4 : Int32} : frA (K_Riddles_fewestGifts_47 x1 x2 x3 x4) := by
  unfold K_Riddles_fewestGifts_47
  repeat' first | with_reducible exact frA_rt | with_reducible exact frA_rd | with_reducible exact frA_ld | with_reducible refine frA_wr ?_ | with_reducible refine frA_sr ?_ | with_reducible exact frA_gd | with_reducible exact frA_gdZ | with_reducible exact fr_B_Riddles_fewestGifts_47 | with_reducible exact fr_K_Riddles_fewestGifts_95 | with_reducible refine frA_bn ?_ fun _ => ?_ | with_reducible refine frA_ite ?_ ?_ | with_reducible refine frA_lp fun _ => ?_ | omega
theorem fr_B_Riddles_fewestGifts_34 {y : Int32} : frA (B_Riddles_fewestGifts_34 y) := by
  unfold B_Riddles_fewestGifts_34
  repeat' first | with_reducible exact frA_rt | with_reducible exact frA_rd | with_reducible exact frA_ld | with_reducible refine frA_wr ?_ | with_reducible refine frA_sr ?_ | with_reducible exact frA_gd | with_reducible exact frA_gdZ | with_reducible exact fr_K_Riddles_fewestGifts_47 | with_reducible refine frA_bn ?_ fun _ => ?_ | with_reducible refine frA_ite ?_ ?_ | omega
theorem fr_K_Riddles_fewestGifts_34 {x1 : Int32} : frA (K_Riddles_fewestGifts_34 x1) := by
  unfold K_Riddles_fewestGifts_34
  repeat' first | with_reducible exact frA_rt | with_reducible exact frA_rd | with_reducible exact frA_ld | with_reducible refine frA_wr ?_ | with_reducible refine frA_sr ?_ | with_reducible exact frA_gd | with_reducible exact frA_gdZ | with_reducible exact fr_B_Riddles_fewestGifts_34 | with_reducible refine frA_bn ?_ fun _ => ?_ | with_reducible refine frA_ite ?_ ?_ | with_reducible refine frA_lp fun _ => ?_ | omega
theorem fr_K_Riddles_fewestGifts_25 : frA K_Riddles_fewestGifts_25 := by
  unfold K_Riddles_fewestGifts_25
  repeat' first | with_reducible exact frA_rt | with_reducible exact frA_rd | with_reducible exact frA_ld | with_reducible refine frA_wr ?_ | with_reducible refine frA_sr ?_ | with_reducible exact frA_gd | with_reducible exact frA_gdZ | with_reducible exact fr_K_Riddles_fewestGifts_34 | with_reducible refine frA_bn ?_ fun _ => ?_ | with_reducible refine frA_ite ?_ ?_ | omega
theorem fr_K_Riddles_fewestGifts_2 {x1 : Int32} : frA (K_Riddles_fewestGifts_2 x1) := by
  unfold K_Riddles_fewestGifts_2
  repeat' first | with_reducible exact frA_rt | with_reducible exact frA_rd | with_reducible exact frA_ld | with_reducible refine frA_wr ?_ | with_reducible refine frA_sr ?_ | with_reducible exact frA_gd | with_reducible exact frA_gdZ | with_reducible exact fr_B_Riddles_fewestGifts_2 | with_reducible exact fr_K_Riddles_fewestGifts_25 | with_reducible refine frA_bn ?_ fun _ => ?_ | with_reducible refine frA_ite ?_ ?_ | with_reducible refine frA_lp fun _ => ?_ | omega
theorem fr_F_Riddles_fewestGifts : frA F_Riddles_fewestGifts := by
  unfold F_Riddles_fewestGifts
  repeat' first | with_reducible exact frA_rt | with_reducible exact frA_rd | with_reducible exact frA_ld | with_reducible refine frA_wr ?_ | with_reducible refine frA_sr ?_ | with_reducible exact frA_gd | with_reducible exact frA_gdZ | with_reducible exact fr_K_Riddles_fewestGifts_2 | with_reducible refine frA_bn ?_ fun _ => ?_ | with_reducible refine frA_ite ?_ ?_ | omega
theorem fr_F_A_settled {x1 : Int32} : frA (F_A_settled x1) := by
  unfold F_A_settled
  repeat' first | with_reducible exact frA_rt | with_reducible exact frA_rd | with_reducible exact frA_ld | with_reducible refine frA_wr ?_ | with_reducible refine frA_sr ?_ | with_reducible exact frA_gd | with_reducible exact frA_gdZ | with_reducible exact fr_F_Riddles_fewestGifts | with_reducible exact fr_F_A_within | with_reducible exact fr_F_Riddles_toGet | with_reducible refine frA_bn ?_ fun _ => ?_ | with_reducible refine frA_ite ?_ ?_ | omega
theorem fr_F_A_sighted {x1 : Int32} {x2 : Int32} : frA (F_A_sighted x1 x2) := by
  unfold F_A_sighted
  repeat' first | with_reducible exact frA_rt | with_reducible exact frA_rd | with_reducible exact frA_ld | with_reducible refine frA_wr ?_ | with_reducible refine frA_sr ?_ | with_reducible exact frA_gd | with_reducible exact frA_gdZ | with_reducible refine fr_F_Table_wipe ?_ | with_reducible exact fr_F_A_within | with_reducible refine fr_F_Table_put ?_ | with_reducible refine frA_bn ?_ fun _ => ?_ | with_reducible refine frA_ite ?_ ?_ | omega
theorem fr_B_Riddles_canSpeakTrue_2 {x1 : Int32} {y : Int32} : frA (B_Riddles_canSpeakTrue_2 x1 y) := by
  unfold B_Riddles_canSpeakTrue_2
  repeat' first | with_reducible exact frA_rt | with_reducible exact frA_rd | with_reducible exact frA_ld | with_reducible refine frA_wr ?_ | with_reducible refine frA_sr ?_ | with_reducible exact frA_gd | with_reducible exact frA_gdZ | with_reducible exact fr_F_Table_at | with_reducible refine frA_bn ?_ fun _ => ?_ | with_reducible refine frA_ite ?_ ?_ | omega
theorem fr_K_Riddles_canSpeakTrue_2 {x1 : Int32} {x2 : Int32} : frA (K_Riddles_canSpeakTrue_2 x1 x2) := by
  unfold K_Riddles_canSpeakTrue_2
  repeat' first | with_reducible exact frA_rt | with_reducible exact frA_rd | with_reducible exact frA_ld | with_reducible refine frA_wr ?_ | with_reducible refine frA_sr ?_ | with_reducible exact frA_gd | with_reducible exact frA_gdZ | with_reducible exact fr_B_Riddles_canSpeakTrue_2 | with_reducible refine frA_bn ?_ fun _ => ?_ | with_reducible refine frA_ite ?_ ?_ | with_reducible refine frA_lp fun _ => ?_ | omega
theorem fr_F_Riddles_canSpeakTrue {x1 : Int32} : frA (F_Riddles_canSpeakTrue x1) := by
  unfold F_Riddles_canSpeakTrue
  repeat' first | with_reducible exact frA_rt | with_reducible exact frA_rd | with_reducible exact frA_ld | with_reducible refine frA_wr ?_ | with_reducible refine frA_sr ?_ | with_reducible exact frA_gd | with_reducible exact frA_gdZ | with_reducible exact fr_K_Riddles_canSpeakTrue_2 | with_reducible refine frA_bn ?_ fun _ => ?_ | with_reducible refine frA_ite ?_ ?_ | omega
theorem fr_B_Riddles_trueSpeakers_12 {x1 : Int32} {y : Int32 × Int32 × Int32 × Int32} : frA (B_Riddles_trueSpeakers_12 x1 y) := by
  unfold B_Riddles_trueSpeakers_12
  repeat' first | with_reducible exact frA_rt | with_reducible exact frA_rd | with_reducible exact frA_ld | with_reducible refine frA_wr ?_ | with_reducible refine frA_sr ?_ | with_reducible exact frA_gd | with_reducible exact frA_gdZ | with_reducible exact fr_F_Riddles_canSpeakTrue | with_reducible exact fr_F_Integer_bitCount | with_reducible refine frA_bn ?_ fun _ => ?_ | with_reducible refine frA_ite ?_ ?_ | omega
theorem fr_K_Riddles_trueSpeakers_55 {x1 : Int32} {x2 : Int32} {x3 : Int32} {x4 : Int32} : frA (K_Riddles_trueSpeakers_55 x1 x2 x3 x4) := by
  unfold K_Riddles_trueSpeakers_55
  repeat' first | with_reducible exact frA_rt | with_reducible exact frA_rd | with_reducible exact frA_ld | with_reducible refine frA_wr ?_ | with_reducible refine frA_sr ?_ | with_reducible exact frA_gd | with_reducible exact frA_gdZ | with_reducible refine frA_bn ?_ fun _ => ?_ | with_reducible refine frA_ite ?_ ?_ | omega
theorem fr_K_Riddles_trueSpeakers_12 {x1 : Int32} {x2 : Int32} {x3 : Int32} {x4 : Int32} {x5 : Int32} : frA (K_Riddles_trueSpeakers_12 x1 x2 x3 x4 x5) := by
  unfold K_Riddles_trueSpeakers_12
  repeat' first | with_reducible exact frA_rt | with_reducible exact frA_rd | with_reducible exact frA_ld | with_reducible refine frA_wr ?_ | with_reducible refine frA_sr ?_ | with_reducible exact frA_gd | with_reducible exact frA_gdZ | with_reducible exact fr_B_Riddles_trueSpeakers_12 | with_reducible exact fr_K_Riddles_trueSpeakers_55 | with_reducible refine frA_bn ?_ fun _ => ?_ | with_reducible refine frA_ite ?_ ?_ | with_reducible refine frA_lp fun _ => ?_ | omega
theorem fr_F_Riddles_trueSpeakers {x1 : Int32} : frA (F_Riddles_trueSpeakers x1) := by
  unfold F_Riddles_trueSpeakers
  repeat' first | with_reducible exact frA_rt | with_reducible exact frA_rd | with_reducible exact frA_ld | with_reducible refine frA_wr ?_ | with_reducible refine frA_sr ?_ | with_reducible exact frA_gd | with_reducible exact frA_gdZ | with_reducible exact fr_K_Riddles_trueSpeakers_12 | with_reducible refine frA_bn ?_ fun _ => ?_ | with_reducible refine frA_ite ?_ ?_ | omega
theorem fr_F_A_speakers {x1 : Int32} : frA (F_A_speakers x1) := by
  unfold F_A_speakers
  repeat' first | with_reducible exact frA_rt | with_reducible exact frA_rd | with_reducible exact frA_ld | with_reducible refine frA_wr ?_ | with_reducible refine frA_sr ?_ | with_reducible exact frA_gd | with_reducible exact frA_gdZ | with_reducible exact fr_F_A_within | with_reducible exact fr_F_Riddles_trueSpeakers | with_reducible refine frA_bn ?_ fun _ => ?_ | with_reducible refine frA_ite ?_ ?_ | omega
theorem fr_F_A_state {x1 : Int32} : frA (F_A_state x1) := by
  unfold F_A_state
  repeat' first | with_reducible exact frA_rt | with_reducible exact frA_rd | with_reducible exact frA_ld | with_reducible refine frA_wr ?_ | with_reducible refine frA_sr ?_ | with_reducible exact frA_gd | with_reducible exact frA_gdZ | with_reducible exact fr_F_A_forget | with_reducible refine frA_bn ?_ fun _ => ?_ | with_reducible refine frA_ite ?_ ?_ | omega
theorem fr_F_Port_neighbours {x1 : Int32} : frA (F_Port_neighbours x1) := by
  unfold F_Port_neighbours
  repeat' first | with_reducible exact frA_rt | with_reducible exact frA_rd | with_reducible exact frA_ld | with_reducible refine frA_wr ?_ | with_reducible refine frA_sr ?_ | with_reducible exact frA_gd | with_reducible exact frA_gdZ | with_reducible exact fr_F_Port_drawMap | with_reducible refine frA_bn ?_ fun _ => ?_ | with_reducible refine frA_ite ?_ ?_ | omega
theorem fr_F_A_street {x1 : Int32} {x2 : Int32} : frA (F_A_street x1 x2) := by
  unfold F_A_street
  repeat' first | with_reducible exact frA_rt | with_reducible exact frA_rd | with_reducible exact frA_ld | with_reducible refine frA_wr ?_ | with_reducible refine frA_sr ?_ | with_reducible exact frA_gd | with_reducible exact frA_gdZ | with_reducible exact fr_F_A_within | with_reducible exact fr_F_World_outIn | with_reducible exact fr_F_Port_neighbours | with_reducible refine frA_bn ?_ fun _ => ?_ | with_reducible refine frA_ite ?_ ?_ | omega
theorem fr_B_Riddles_weightOf_4 {x1 : Int32} {y : Int32 × Int32} : frA (B_Riddles_weightOf_4 x1 y) := by
  unfold B_Riddles_weightOf_4
  repeat' first | with_reducible exact frA_rt | with_reducible exact frA_rd | with_reducible exact frA_ld | with_reducible refine frA_wr ?_ | with_reducible refine frA_sr ?_ | with_reducible exact frA_gd | with_reducible exact frA_gdZ | with_reducible exact fr_F_Table_at | with_reducible refine frA_bn ?_ fun _ => ?_ | with_reducible refine frA_ite ?_ ?_ | omega
theorem fr_K_Riddles_weightOf_4 {x1 : Int32} {x2 : Int32} {x3 : Int32} : frA (K_Riddles_weightOf_4 x1 x2 x3) := by
  unfold K_Riddles_weightOf_4
  repeat' first | with_reducible exact frA_rt | with_reducible exact frA_rd | with_reducible exact frA_ld | with_reducible refine frA_wr ?_ | with_reducible refine frA_sr ?_ | with_reducible exact frA_gd | with_reducible exact frA_gdZ | with_reducible exact fr_B_Riddles_weightOf_4 | with_reducible refine frA_bn ?_ fun _ => ?_ | with_reducible refine frA_ite ?_ ?_ | with_reducible refine frA_lp fun _ => ?_ | omega
theorem fr_F_Riddles_weightOf {x1 : Int32} : frA (F_Riddles_weightOf x1) := by
  unfold F_Riddles_weightOf
  repeat' first | with_reducible exact frA_rt | with_reducible exact frA_rd | with_reducible exact frA_ld | with_reducible refine frA_wr ?_ | with_reducible refine frA_sr ?_ | with_reducible exact frA_gd | with_reducible exact frA_gdZ | with_reducible exact fr_K_Riddles_weightOf_4 | with_reducible refine frA_bn ?_ fun _ => ?_ | with_reducible refine frA_ite ?_ ?_ | omega
theorem fr_B_Riddles_swingsOf_31 {x1 : Int32} {x2 : Int32} {x3 : Int32} {x4 : Int32} {y : Int32 × Int32} : frA (B_Riddles_swingsOf_31 x1 x2 x3 x4 y) := by
  unfold B_Riddles_swingsOf_31
  repeat' first | with_reducible exact frA_rt | with_reducible exact frA_rd | with_reducible exact frA_ld | with_reducible refine frA_wr ?_ | with_reducible refine frA_sr ?_ | with_reducible exact frA_gd | with_reducible exact frA_gdZ | with_reducible exact fr_F_Riddles_weightOf | with_reducible refine frA_bn ?_ fun _ => ?_ | with_reducible refine frA_ite ?_ ?_ | omega
theorem fr_K_Riddles_swingsOf_31 {x1 : Int32} {x2 : Int32} {x3 : Int32} {x4 : Int32} {x5 : Int32} {x6 : Int32} : frA (K_Riddles_swingsOf_31 x1 x2 x3 x4 x5 x6) := by
  unfold K_Riddles_swingsOf_31
  repeat' first | with_reducible exact frA_rt | with_reducible exact frA_rd | with_reducible exact frA_ld | with_reducible refine frA_wr ?_ | with_reducible refine frA_sr ?_ | with_reducible exact frA_gd | with_reducible exact frA_gdZ | with_reducible exact fr_B_Riddles_swingsOf_31 | with_reducible refine frA_bn ?_ fun _ => ?_ | with_reducible refine frA_ite ?_ ?_ | with_reducible refine frA_lp fun _ => ?_ | omega
theorem fr_F_Riddles_swingsOf {x1 : Int32} {x2 : Int32} : frA (F_Riddles_swingsOf x1 x2) := by
  unfold F_Riddles_swingsOf
  repeat' first | with_reducible exact frA_rt | with_reducible exact frA_rd | with_reducible exact frA_ld | with_reducible refine frA_wr ?_ | with_reducible refine frA_sr ?_ | with_reducible exact frA_gd | with_reducible exact frA_gdZ | with_reducible exact fr_F_Table_at | with_reducible exact fr_K_Riddles_swingsOf_31 | with_reducible refine frA_bn ?_ fun _ => ?_ | with_reducible refine frA_ite ?_ ?_ | omega
theorem fr_B_Riddles_neverSwing_4 {x1 : Int32} {y : Int32 × Int32} : frA (B_Riddles_neverSwing_4 x1 y) := by
  unfold B_Riddles_neverSwing_4
  repeat' first | with_reducible exact frA_rt | with_reducible exact frA_rd | with_reducible exact frA_ld | with_reducible refine frA_wr ?_ | with_reducible refine frA_sr ?_ | with_reducible exact frA_gd | with_reducible exact frA_gdZ | with_reducible exact fr_F_Riddles_swingsOf | with_reducible refine frA_bn ?_ fun _ => ?_ | with_reducible refine frA_ite ?_ ?_ | omega
theorem fr_K_Riddles_neverSwing_4 {x1 : Int32} {x2 : Int32} {x3 : Int32} : frA (K_Riddles_neverSwing_4 x1 x2 x3) := by
  unfold K_Riddles_neverSwing_4
  repeat' first | with_reducible exact frA_rt | with_reducible exact frA_rd | with_reducible exact frA_ld | with_reducible refine frA_wr ?_ | with_reducible refine frA_sr ?_ | with_reducible exact frA_gd | with_reducible exact frA_gdZ | with_reducible exact fr_B_Riddles_neverSwing_4 | with_reducible refine frA_bn ?_ fun _ => ?_ | with_reducible refine frA_ite ?_ ?_ | with_reducible refine frA_lp fun _ => ?_ | omega
end FRM3
