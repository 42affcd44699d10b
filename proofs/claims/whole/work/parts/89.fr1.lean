/-! what is left alone (printed by wip/tools/gen_fr.py) -/
section FRM1
theorem fr_F_World_become {r0 : Nat} {r1 : Nat} (hr0 : r0 + 10 < 207) : frA (F_World_become r0 r1) := by
  unfold F_World_become
  repeat' first | with_reducible exact frA_rt | with_reducible exact frA_rd | with_reducible exact frA_ld | with_reducible refine frA_wr ?_ | with_reducible refine frA_sr ?_ | with_reducible exact frA_gd | with_reducible exact frA_gdZ | with_reducible refine frA_cp ?_ | with_reducible refine frA_bn ?_ fun _ => ?_ | with_reducible refine frA_ite ?_ ?_ | omega
theorem fr_F_A_keepPast : frA F_A_keepPast := by
  unfold F_A_keepPast
  refine frA_bn frA_rd fun v => ?_
  refine frA_bnG fun h => ?_
  have h2 := inR_lt2 h
  repeat' first | with_reducible exact frA_rt | with_reducible exact frA_rd | with_reducible refine frA_wr ?_ | with_reducible refine fr_F_World_become ?_ | with_reducible refine frA_bn ?_ fun _ => ?_ | with_reducible refine frA_dvI ?_ | omega
theorem fr_F_Book_write {r0 : Nat} {r1 : Nat} {x2 : Int32} {x3 : Int32} {x4 : Int32} (hr0 : r0 + 1 < 207) (hr1 : r1 + 0 < 207) : frA (F_Book_write r0 r1 x2 x3 x4) := by
  unfold F_Book_write
  repeat' first | with_reducible exact frA_rt | with_reducible exact frA_rd | with_reducible exact frA_ld | with_reducible refine frA_wr ?_ | with_reducible refine frA_sr ?_ | with_reducible exact frA_gd | with_reducible exact frA_gdZ | with_reducible refine frA_bn ?_ fun _ => ?_ | with_reducible refine frA_ite ?_ ?_ | omega
theorem fr_F_World_isPerson {r0 : Nat} {x1 : Int32} : frA (F_World_isPerson r0 x1) := by
  unfold F_World_isPerson
  repeat' first | with_reducible exact frA_rt | with_reducible exact frA_rd | with_reducible exact frA_ld | with_reducible refine frA_wr ?_ | with_reducible refine frA_sr ?_ | with_reducible exact frA_gd | with_reducible exact frA_gdZ | with_reducible refine frA_bn ?_ fun _ => ?_ | with_reducible refine frA_ite ?_ ?_ | omega
theorem fr_F_A_pay {x1 : Int32} : frA (F_A_pay x1) := by
  unfold F_A_pay
  repeat' first | with_reducible exact frA_rt | with_reducible exact frA_rd | with_reducible exact frA_ld | with_reducible refine frA_wr ?_ | with_reducible refine frA_sr ?_ | with_reducible exact frA_gd | with_reducible exact frA_gdZ | with_reducible exact fr_F_World_isPerson | with_reducible exact fr_F_A_keepPast | with_reducible refine fr_F_Book_write ?_ ?_ | with_reducible refine frA_bn ?_ fun _ => ?_ | with_reducible refine frA_ite ?_ ?_ | omega
theorem fr_F_A_within {x0 : Int32} {x1 : Int32} {x2 : Int32} : frA (F_A_within x0 x1 x2) := by
  unfold F_A_within
  repeat' first | with_reducible exact frA_rt | with_reducible exact frA_rd | with_reducible exact frA_ld | with_reducible refine frA_wr ?_ | with_reducible refine frA_sr ?_ | with_reducible exact frA_gd | with_reducible exact frA_gdZ | with_reducible refine frA_bn ?_ fun _ => ?_ | with_reducible refine frA_ite ?_ ?_ | omega
theorem fr_F_World_isAlias {r0 : Nat} {x1 : Int32} : frA (F_World_isAlias r0 x1) := by
  unfold F_World_isAlias
  repeat' first | with_reducible exact frA_rt | with_reducible exact frA_rd | with_reducible exact frA_ld | with_reducible refine frA_wr ?_ | with_reducible refine frA_sr ?_ | with_reducible exact frA_gd | with_reducible exact frA_gdZ | with_reducible refine frA_bn ?_ fun _ => ?_ | with_reducible refine frA_ite ?_ ?_ | omega
theorem fr_F_World_lieDown {r0 : Nat} {x1 : Int32} (hr0 : r0 + 8 < 207) : frA (F_World_lieDown r0 x1) := by
  unfold F_World_lieDown
  repeat' first | with_reducible exact frA_rt | with_reducible exact frA_rd | with_reducible exact frA_ld | with_reducible refine frA_wr ?_ | with_reducible refine frA_sr ?_ | with_reducible exact frA_gd | with_reducible exact frA_gdZ | with_reducible refine frA_bn ?_ fun _ => ?_ | with_reducible refine frA_ite ?_ ?_ | omega
theorem fr_F_World_walkOut {r0 : Nat} {x1 : Int32} {x2 : Int32} (hr0 : r0 + 8 < 207) : frA (F_World_walkOut r0 x1 x2) := by
  unfold F_World_walkOut
  repeat' first | with_reducible exact frA_rt | with_reducible exact frA_rd | with_reducible exact frA_ld | with_reducible refine frA_wr ?_ | with_reducible refine frA_sr ?_ | with_reducible exact frA_gd | with_reducible exact frA_gdZ | with_reducible refine frA_bn ?_ fun _ => ?_ | with_reducible refine frA_ite ?_ ?_ | omega
theorem fr_F_A_act {x1 : Int32} {x2 : Int32} {x3 : Int32} : frA (F_A_act x1 x2 x3) := by
  unfold F_A_act
  repeat' first | with_reducible exact frA_rt | with_reducible exact frA_rd | with_reducible exact frA_ld | with_reducible refine frA_wr ?_ | with_reducible refine frA_sr ?_ | with_reducible exact frA_gd | with_reducible exact frA_gdZ | with_reducible exact fr_F_World_isAlias | with_reducible exact fr_F_A_within | with_reducible exact fr_F_A_keepPast | with_reducible refine fr_F_World_walkOut ?_ | with_reducible refine fr_F_World_lieDown ?_ | with_reducible exact fr_F_A_pay | with_reducible refine frA_bn ?_ fun _ => ?_ | with_reducible refine frA_ite ?_ ?_ | omega
theorem fr_F_A_forget : frA F_A_forget := by
  unfold F_A_forget
  repeat' first | with_reducible exact frA_rt | with_reducible exact frA_rd | with_reducible exact frA_ld | with_reducible refine frA_wr ?_ | with_reducible refine frA_sr ?_ | with_reducible exact frA_gd | with_reducible exact frA_gdZ | with_reducible refine frA_bn ?_ fun _ => ?_ | with_reducible refine frA_ite ?_ ?_ | omega
theorem fr_K_World_addAlias_32 {r0 : Nat} {x1 : Int32} {x2 : Int32} {x3 : Int32} (hr0 : r0 + 10 < 207) : frA (K_World_addAlias_32 r0 x1 x2 x3) := by
  unfold K_World_addAlias_32
  repeat' first | with_reducible exact frA_rt | with_reducible exact frA_rd | with_reducible exact frA_ld | with_reducible refine frA_wr ?_ | with_reducible refine frA_sr ?_ | with_reducible exact frA_gd | with_reducible exact frA_gdZ | with_reducible refine frA_bn ?_ fun _ => ?_ | with_reducible refine frA_ite ?_ ?_ | omega
theorem fr_F_World_addAlias {r0 : Nat} {x1 : Int32} {x2 : Int32} {x3 : Int32} (hr0 : r0 + 10 < 207) : frA (F_World_addAlias r0 x1 x2 x3) := by
  unfold F_World_addAlias
  repeat' first | with_reducible exact frA_rt | with_reducible exact frA_rd | with_reducible exact frA_ld | with_reducible refine frA_wr ?_ | with_reducible refine frA_sr ?_ | with_reducible exact frA_gd | with_reducible exact frA_gdZ | with_reducible exact fr_F_World_isPerson | with_reducible refine fr_K_World_addAlias_32 ?_ | with_reducible exact fr_F_A_within | with_reducible refine frA_bn ?_ fun _ => ?_ | with_reducible refine frA_ite ?_ ?_ | omega
theorem fr_F_A_alias {x1 : Int32} {x2 : Int32} {x3 : Int32} : frA (F_A_alias x1 x2 x3) := by
  unfold F_A_alias
  repeat' first | with_reducible exact frA_rt | with_reducible exact frA_rd | with_reducible exact frA_ld | with_reducible refine frA_wr ?_ | with_reducible refine frA_sr ?_ | with_reducible exact frA_gd | with_reducible exact frA_gdZ | with_reducible refine fr_F_World_addAlias ?_ | with_reducible exact fr_F_A_forget | with_reducible refine frA_bn ?_ fun _ => ?_ | with_reducible refine frA_ite ?_ ?_ | omega
theorem fr_F_Table_cell {r0 : Nat} {x1 : Int32} {x2 : Int32} (hr0 : r0 + 1 < 207) : frA (F_Table_cell r0 x1 x2) := by
  unfold F_Table_cell
  repeat' first | with_reducible exact frA_rt | with_reducible exact frA_rd | with_reducible exact frA_ld | with_reducible refine frA_wr ?_ | with_reducible refine frA_sr ?_ | with_reducible exact frA_gd | with_reducible exact frA_gdZ | with_reducible refine frA_bn ?_ fun _ => ?_ | with_reducible refine frA_ite ?_ ?_ | omega
theorem fr_F_Table_isFull {r0 : Nat} : frA (F_Table_isFull r0) := by
  unfold F_Table_isFull
  repeat' first | with_reducible exact frA_rt | with_reducible exact frA_rd | with_reducible exact frA_ld | with_reducible refine frA_wr ?_ | with_reducible refine frA_sr ?_ | with_reducible exact frA_gd | with_reducible exact frA_gdZ | with_reducible refine frA_bn ?_ fun _ => ?_ | with_reducible refine frA_ite ?_ ?_ | omega
theorem fr_F_Table_putWide {r0 : Nat} {x1 : Int32} {x2 : Int32} {x3 : Int32} {x4 : Int32} {x5 : Int32} (hr0 : r0 + 1 < 207) : frA (F_Table_putWide r0 x1 x2 x3 x4 x5) := by
  unfold F_Table_putWide
  repeat' first | with_reducible exact frA_rt | with_reducible exact frA_rd | with_reducible exact frA_ld | with_reducible refine frA_wr ?_ | with_reducible refine frA_sr ?_ | with_reducible exact frA_gd | with_reducible exact frA_gdZ | with_reducible exact fr_F_Table_isFull | with_reducible refine fr_F_Table_cell ?_ | with_reducible refine frA_bn ?_ fun _ => ?_ | with_reducible refine frA_ite ?_ ?_ | omega
theorem fr_F_Table_put {r0 : Nat} {x1 : Int32} {x2 : Int32} {x3 : Int32} (hr0 : r0 + 1 < 207) : frA (F_Table_put r0 x1 x2 x3) := by
  unfold F_Table_put
  repeat' first | with_reducible exact frA_rt | with_reducible exact frA_rd | with_reducible exact frA_ld | with_reducible refine frA_wr ?_ | with_reducible refine frA_sr ?_ | with_reducible exact frA_gd | with_reducible exact frA_gdZ | with_reducible refine fr_F_Table_putWide ?_ | with_reducible refine frA_bn ?_ fun _ => ?_ | with_reducible refine frA_ite ?_ ?_ | omega
theorem fr_F_Table_wipe {r0 : Nat} (hr0 : r0 + 0 < 207) : frA (F_Table_wipe r0) := by
  unfold F_Table_wipe
  repeat' first | with_reducible exact frA_rt | with_reducible exact frA_rd | with_reducible exact frA_ld | with_reducible refine frA_wr ?_ | with_reducible refine frA_sr ?_ | with_reducible exact frA_gd | with_reducible exact frA_gdZ | with_reducible refine frA_bn ?_ fun _ => ?_ | with_reducible refine frA_ite ?_ ?_ | omega
theorem fr_F_A_bed {x1 : Int32} {x2 : Int32} : frA (F_A_bed x1 x2) := by
  unfold F_A_bed
  repeat' first | with_reducible exact frA_rt | with_reducible exact frA_rd | with_reducible exact frA_ld | with_reducible refine frA_wr ?_ | with_reducible refine frA_sr ?_ | with_reducible exact frA_gd | with_reducible exact frA_gdZ | with_reducible refine fr_F_Table_wipe ?_ | with_reducible exact fr_F_A_within | with_reducible refine fr_F_Table_put ?_ | with_reducible refine frA_bn ?_ fun _ => ?_ | with_reducible refine frA_ite ?_ ?_ | omega
theorem fr_B_Arrays_fill_5 {r0 : Nat} {x1 : Int32} {x3 : Int32} {y : Int32} (hr0 : r0 + 0 < 207) : frA (B_Arrays_fill_5 r0 x1 x3 y) := by
  unfold B_Arrays_fill_5
  repeat' first | with_reducible exact frA_rt | with_reducible exact frA_rd | with_reducible exact frA_ld | with_reducible refine frA_wr ?_ | with_reducible refine frA_sr ?_ | with_reducible exact frA_gd | with_reducible exact frA_gdZ | with_reducible refine frA_bn ?_ fun _ => ?_ | with_reducible refine frA_ite ?_ ?_ | omega
theorem fr_K_Arrays_fill_5 {r0 : Nat} {x1 : Int32} {x2 : Int32} {x3 : Int32} (hr0 : r0 + 0 < 207) : frA (K_Arrays_fill_5 r0 x1 x2 x3) := by
  unfold K_Arrays_fill_5
  repeat' first | with_reducible exact frA_rt | with_reducible exact frA_rd | with_reducible exact frA_ld | with_reducible refine frA_wr ?_ | with_reducible refine frA_sr ?_ | with_reducible exact frA_gd | with_reducible exact frA_gdZ | with_reducible refine fr_B_Arrays_fill_5 ?_ | with_reducible refine frA_bn ?_ fun _ => ?_ | with_reducible refine frA_ite ?_ ?_ | with_reducible refine frA_lp fun _ => ?_ | omega
theorem fr_F_Arrays_fill {r0 : Nat} {x1 : Int32} (hr0 : r0 + 0 < 207) : frA (F_Arrays_fill r0 x1) := by
  unfold F_Arrays_fill
  repeat' first | with_reducible exact frA_rt | with_reducible exact frA_rd | with_reducible exact frA_ld | with_reducible refine frA_wr ?_ | with_reducible refine frA_sr ?_ | with_reducible exact frA_gd | with_reducible exact frA_gdZ | with_reducible refine fr_K_Arrays_fill_5 ?_ | with_reducible refine frA_bn ?_ fun _ => ?_ | with_reducible refine frA_ite ?_ ?_ | omega
theorem fr_B_Matching_finds_20 {f_Matching_comesFree : Nat → Int32 → Int32 → M Int32} {r0 : Nat} {x1 : Int32} {x2 : Int32} {y : Int32} (hf : ∀ a b c, a + 2 < 207 → frA (f_Matching_comesFree a b c)) (hr0 : r0 + 2 < 207) : frA (B_Matching_finds_20 f_Matching_comesFree r0 x1 x2 y) := by
  unfold B_Matching_finds_20
  repeat' first | with_reducible exact frA_rt | with_reducible exact frA_rd | with_reducible exact frA_ld | with_reducible refine frA_wr ?_ | with_reducible refine frA_sr ?_ | with_reducible exact frA_gd | with_reducible exact frA_gdZ | with_reducible refine hf _ _ _ ?_ | with_reducible refine frA_bn ?_ fun _ => ?_ | with_reducible refine frA_ite ?_ ?_ | omega
theorem fr_K_Matching_finds_20 {f_Matching_comesFree : Nat → Int32 → Int32 → M Int32} {r0 : Nat} {x1 : Int32} {x2 : Int32} {x3 : Int32} (hf : ∀ a b c, a + 2 < 207 → frA (f_Matching_comesFree a b c)) (hr0 : r0 + 2 < 207) : frA (K_Matching_finds_20 f_Matching_comesFree r0 x1 x2 x3) := by
  unfold K_Matching_finds_20
  repeat' first | with_reducible exact frA_rt | with_reducible exact frA_rd | with_reducible exact frA_ld | with_reducible refine frA_wr ?_ | with_reducible refine frA_sr ?_ | with_reducible exact frA_gd | with_reducible exact frA_gdZ | with_reducible refine fr_B_Matching_finds_20 hf ?_ | with_reducible refine hf _ _ _ ?_ | with_reducible refine frA_bn ?_ fun _ => ?_ | with_reducible refine frA_ite ?_ ?_ | with_reducible refine frA_lp fun _ => ?_ | omega
theorem fr_K_Matching_finds_0 {f_Matching_comesFree : Nat → Int32 → Int32 → M Int32} {r0 : Nat} {x1 : Int32} {x2 : Int32} (hf : ∀ a b c, a + 2 < 207 → frA (f_Matching_comesFree a b c)) (hr0 : r0 + 2 < 207) : frA (K_Matching_finds_0 f_Matching_comesFree r0 x1 x2) := by
  unfold K_Matching_finds_0
  repeat' first | with_reducible exact frA_rt | with_reducible exact frA_rd | with_reducible exact frA_ld | with_reducible refine frA_wr ?_ | with_reducible refine frA_sr ?_ | with_reducible exact frA_gd | with_reducible exact frA_gdZ | with_reducible exact fr_F_A_within | with_reducible refine fr_K_Matching_finds_20 hf ?_ | with_reducible refine hf _ _ _ ?_ | with_reducible refine frA_bn ?_ fun _ => ?_ | with_reducible refine frA_ite ?_ ?_ | omega
theorem fr_K_Matching_comesFree_0 {f_Matching_finds : Nat → Int32 → Int32 → M Int32} {r0 : Nat} {x1 : Int32} {x2 : Int32} (hf : ∀ a b c, a + 2 < 207 → frA (f_Matching_finds a b c)) (hr0 : r0 + 2 < 207) : frA (K_Matching_comesFree_0 f_Matching_finds r0 x1 x2) := by
  unfold K_Matching_comesFree_0
  repeat' first | with_reducible exact frA_rt | with_reducible exact frA_rd | with_reducible exact frA_ld | with_reducible refine frA_wr ?_ | with_reducible refine frA_sr ?_ | with_reducible exact frA_gd | with_reducible exact frA_gdZ | with_reducible refine hf _ _ _ ?_ | with_reducible refine frA_bn ?_ fun _ => ?_ | with_reducible refine frA_ite ?_ ?_ | omega
theorem fr_G_Matching_finds : ∀ (n a : Nat) (b c : Int32), a + 2 < 207 → frA (G_Matching_finds n a b c) := by
  intro n
  induction n with
  | zero => intro a b c _; exact frA_fl
  | succ n ih => intro a b c h; exact fr_K_Matching_finds_0 (fun _ _ _ k => fr_K_Matching_comesFree_0 ih k) h
theorem fr_F_Matching_finds {a : Nat} {b c : Int32} (h : a + 2 < 207) : frA (F_Matching_finds a b c) := fr_G_Matching_finds 14 a b c h
theorem fr_B_Matching_most_14 {r0 : Nat} {x2 : Int32} {x3 : Int32} {y : Int32 × Int32} (hr0 : r0 + 2 < 207) : frA (B_Matching_most_14 r0 x2 x3 y) := by
  unfold B_Matching_most_14
  repeat' first | with_reducible exact frA_rt | with_reducible exact frA_rd | with_reducible exact frA_ld | with_reducible refine frA_wr ?_ | with_reducible refine frA_sr ?_ | with_reducible exact frA_gd | with_reducible exact frA_gdZ | with_reducible refine fr_F_Matching_finds ?_ | with_reducible refine frA_bn ?_ fun _ => ?_ | with_reducible refine frA_ite ?_ ?_ | omega
theorem fr_K_Matching_most_14 {r0 : Nat} {x2 : Int32} {x3 : Int32} {x4 : Int32} {x5 : Int32} (hr0 : r0 + 2 < 207) : frA (K_Matching_most_14 r0 x2 x3 x4 x5) := by
  unfold K_Matching_most_14
  repeat' first | with_reducible exact frA_rt | with_reducible exact frA_rd | with_reducible exact frA_ld | with_reducible refine frA_wr ?_ | with_reducible refine frA_sr ?_ | with_reducible exact frA_gd | with_reducible exact frA_gdZ | with_reducible refine fr_B_Matching_most_14 ?_ | with_reducible refine frA_bn ?_ fun _ => ?_ | with_reducible refine frA_ite ?_ ?_ | with_reducible refine frA_lp fun _ => ?_ | omega
theorem fr_F_Matching_most {r0 : Nat} {x1 : Int32} {x2 : Int32} {x3 : Int32} (hr0 : r0 + 2 < 207) : frA (F_Matching_most r0 x1 x2 x3) := by
  unfold F_Matching_most
  repeat' first | with_reducible exact frA_rt | with_reducible exact frA_rd | with_reducible exact frA_ld | with_reducible refine frA_wr ?_ | with_reducible refine frA_sr ?_ | with_reducible exact frA_gd | with_reducible exact frA_gdZ | with_reducible refine fr_F_Arrays_fill ?_ | with_reducible refine fr_K_Matching_most_14 ?_ | with_reducible refine frA_bn ?_ fun _ => ?_ | with_reducible refine frA_ite ?_ ?_ | omega
theorem fr_B_Matching_leastPlace_3 {r0 : Nat} {x1 : Int32} {x2 : Int32} {x3 : Int32} {x4 : Int32} {y : Int32} (hr0 : r0 + 2 < 207) : frA (B_Matching_leastPlace_3 r0 x1 x2 x3 x4 y) := by
  unfold B_Matching_leastPlace_3
  repeat' first | with_reducible exact frA_rt | with_reducible exact frA_rd | with_reducible exact frA_ld | with_reducible refine frA_wr ?_ | with_reducible refine frA_sr ?_ | with_reducible exact frA_gd | with_reducible exact frA_gdZ | with_reducible refine fr_F_Matching_most ?_ | with_reducible refine frA_bn ?_ fun _ => ?_ | with_reducible refine frA_ite ?_ ?_ | omega
theorem fr_K_Matching_leastPlace_3 {r0 : Nat} {x1 : Int32} {x2 : Int32} {x3 : Int32} {x4 : Int32} {x5 : Int32} (hr0 : r0 + 2 < 207) : frA (K_Matching_leastPlace_3 r0 x1 x2 x3 x4 x5) := by
  unfold K_Matching_leastPlace_3
  repeat' first | with_reducible exact frA_rt | with_reducible exact frA_rd | with_reducible exact frA_ld | with_reducible refine frA_wr ?_ | with_reducible refine frA_sr ?_ | with_reducible exact frA_gd | with_reducible exact frA_gdZ | with_reducible refine fr_B_Matching_leastPlace_3 ?_ | with_reducible refine frA_bn ?_ fun _ => ?_ | with_reducible refine frA_ite ?_ ?_ | with_reducible refine frA_lp fun _ => ?_ | omega
theorem fr_F_Matching_leastPlace {r0 : Nat} {x1 : Int32} {x2 : Int32} {x3 : Int32} {x4 : Int32} (hr0 : r0 + 2 < 207) : frA (F_Matching_leastPlace r0 x1 x2 x3 x4) := by
  unfold F_Matching_leastPlace
  repeat' first | with_reducible exact frA_rt | with_reducible exact frA_rd | with_reducible exact frA_ld | with_reducible refine frA_wr ?_ | with_reducible refine frA_sr ?_ | with_reducible exact frA_gd | with_reducible exact frA_gdZ | with_reducible refine fr_K_Matching_leastPlace_3 ?_ | with_reducible refine frA_bn ?_ fun _ => ?_ | with_reducible refine frA_ite ?_ ?_ | omega
theorem fr_B_Matching_firstPlace_17 {r0 : Nat} {x1 : Int32} {x2 : Int32} {y : Int32 × Int32 × Int32 × Int32} (hr0 : r0 + 2 < 207) : frA (B_Matching_firstPlace_17 r0 x1 x2 y) := by
  unfold B_Matching_firstPlace_17
  repeat' first | with_reducible exact frA_rt | with_reducible exact frA_rd | with_reducible exact frA_ld | with_reducible refine frA_wr ?_ | with_reducible refine frA_sr ?_ | with_reducible exact frA_gd | with_reducible exact frA_gdZ | with_reducible refine fr_F_Matching_leastPlace ?_ | with_reducible refine frA_bn ?_ fun _ => ?_ | with_reducible refine frA_ite ?_ ?_ | omega
theorem fr_K_Matching_firstPlace_17 {r0 : Nat} {x1 : Int32} {x2 : Int32} {x3 : Int32} {x4 : Int32} {x5 : Int32} {x6 : Int32} (hr0 : r0 + 2 < 207) : frA (K_Matching_firstPlace_17 r0 x1 x2 x3 x4 x5 x6) := by
  unfold K_Matching_firstPlace_17
  repeat' first | with_reducible exact frA_rt | with_reducible exact frA_rd | with_reducible exact frA_ld | with_reducible refine frA_wr ?_ | with_reducible refine frA_sr ?_ | with_reducible exact frA_gd | with_reducible exact frA_gdZ | with_reducible refine fr_B_Matching_firstPlace_17 ?_ | with_reducible refine frA_bn ?_ fun _ => ?_ | with_reducible refine frA_ite ?_ ?_ | with_reducible refine frA_lp fun _ => ?_ | omega
theorem fr_F_Matching_firstPlace {r0 : Nat} {x1 : Int32} {x2 : Int32} (hr0 : r0 + 2 < 207) : frA (F_Matching_firstPlace r0 x1 x2) := by
  unfold F_Matching_firstPlace
  repeat' first | with_reducible exact frA_rt | with_reducible exact frA_rd | with_reducible exact frA_ld | with_reducible refine frA_wr ?_ | with_reducible refine frA_sr ?_ | with_reducible exact frA_gd | with_reducible exact frA_gdZ | with_reducible refine fr_F_Matching_most ?_ | with_reducible refine fr_K_Matching_firstPlace_17 ?_ | with_reducible refine frA_bn ?_ fun _ => ?_ | with_reducible refine frA_ite ?_ ?_ | omega
theorem fr_F_Matching_allow {r0 : Nat} {x1 : Int32} {x2 : Int32} (hr0 : r0 + 1 < 207) : frA (F_Matching_allow r0 x1 x2) := by
  unfold F_Matching_allow
  repeat' first | with_reducible exact frA_rt | with_reducible exact frA_rd | with_reducible exact frA_ld | with_reducible refine frA_wr ?_ | with_reducible refine frA_sr ?_ | with_reducible exact frA_gd | with_reducible exact frA_gdZ | with_reducible exact fr_F_A_within | with_reducible refine frA_bn ?_ fun _ => ?_ | with_reducible refine frA_ite ?_ ?_ | omega
theorem fr_K_Table_at_28 {r0 : Nat} {x1 : Int32} {x2 : Int32} : frA (K_Table_at_28 r0 x1 x2) := by
  unfold K_Table_at_28
  repeat' first | with_reducible exact frA_rt | with_reducible exact frA_rd | with_reducible exact frA_ld | with_reducible refine frA_wr ?_ | with_reducible refine frA_sr ?_ | with_reducible exact frA_gd | with_reducible exact frA_gdZ | with_reducible refine frA_bn ?_ fun _ => ?_ | with_reducible refine frA_ite ?_ ?_ | omega
theorem fr_F_Table_at {r0 : Nat} {x1 : Int32} {x2 : Int32} : frA (F_Table_at r0 x1 x2) := by
  unfold F_Table_at
  repeat' first | with_reducible exact frA_rt | with_reducible exact frA_rd | with_reducible exact frA_ld | with_reducible refine frA_wr ?_ | with_reducible refine frA_sr ?_ | with_reducible exact frA_gd | with_reducible exact frA_gdZ | with_reducible exact fr_K_Table_at_28 | with_reducible refine frA_bn ?_ fun _ => ?_ | with_reducible refine frA_ite ?_ ?_ | omega
theorem fr_B_Riddles_allowBeds_20 {x1 : Int32} {y : Int32 × Int32} : frA (B_Riddles_allowBeds_20 x1 y) := by
  unfold B_Riddles_allowBeds_20
  repeat' first | with_reducible exact frA_rt | with_reducible exact frA_rd | with_reducible exact frA_ld | with_reducible refine frA_wr ?_ | with_reducible refine frA_sr ?_ | with_reducible exact frA_gd | with_reducible exact frA_gdZ | with_reducible exact fr_F_Table_at | with_reducible exact fr_F_A_within | with_reducible refine frA_bn ?_ fun _ => ?_ | with_reducible refine frA_ite ?_ ?_ | omega
theorem fr_K_Riddles_allowBeds_96 {x1 : Int32} {x2 : Int32} : frA (K_Riddles_allowBeds_96 x1 x2) := by
  unfold K_Riddles_allowBeds_96
  repeat' first | with_reducible exact frA_rt | with_reducible exact frA_rd | with_reducible exact frA_ld | with_reducible refine frA_wr ?_ | with_reducible refine frA_sr ?_ | with_reducible exact frA_gd | with_reducible exact frA_gdZ | with_reducible refine fr_F_Matching_allow ?_ | with_reducible refine frA_bn ?_ fun _ => ?_ | with_reducible refine frA_ite ?_ ?_ | omega
theorem fr_K_Riddles_allowBeds_20 {x1 : Int32} {x2 : Int32} {x3 : Int32} : frA (K_Riddles_allowBeds_20 x1 x2 x3) := by
  unfold K_Riddles_allowBeds_20
  repeat' first | with_reducible exact frA_rt | with_reducible exact frA_rd | with_reducible exact frA_ld | with_reducible refine frA_wr ?_ | with_reducible refine frA_sr ?_ | with_reducible exact frA_gd | with_reducible exact frA_gdZ | with_reducible exact fr_B_Riddles_allowBeds_20 | with_reducible exact fr_K_Riddles_allowBeds_96 | with_reducible refine frA_bn ?_ fun _ => ?_ | with_reducible refine frA_ite ?_ ?_ | with_reducible refine frA_lp fun _ => ?_ | omega
theorem fr_B_Riddles_allowBeds_2 {y : Int32} : frA (B_Riddles_allowBeds_2 y) := by
  unfold B_Riddles_allowBeds_2
  repeat' first | with_reducible exact frA_rt | with_reducible exact frA_rd | with_reducible exact frA_ld | with_reducible refine frA_wr ?_ | with_reducible refine frA_sr ?_ | with_reducible exact frA_gd | with_reducible exact frA_gdZ | with_reducible exact fr_K_Riddles_allowBeds_20 | with_reducible refine frA_bn ?_ fun _ => ?_ | with_reducible refine frA_ite ?_ ?_ | omega
theorem fr_K_Riddles_allowBeds_2 {x1 : Int32} : frA (K_Riddles_allowBeds_2 x1) := by
  unfold K_Riddles_allowBeds_2
  repeat' first | with_reducible exact frA_rt | with_reducible exact frA_rd | with_reducible exact frA_ld | with_reducible refine frA_wr ?_ | with_reducible refine frA_sr ?_ | with_reducible exact frA_gd | with_reducible exact frA_gdZ | with_reducible exact fr_B_Riddles_allowBeds_2 | with_reducible refine frA_bn ?_ fun _ => ?_ | with_reducible refine frA_ite ?_ ?_ | with_reducible refine frA_lp fun _ => ?_ | omega
theorem fr_F_Riddles_allowBeds : frA F_Riddles_allowBeds := by
  unfold F_Riddles_allowBeds
  repeat' first | with_reducible exact frA_rt | with_reducible exact frA_rd | with_reducible exact frA_ld | with_reducible refine frA_wr ?_ | with_reducible refine frA_sr ?_ | with_reducible exact frA_gd | with_reducible exact frA_gdZ | with_reducible exact fr_K_Riddles_allowBeds_2 | with_reducible refine frA_bn ?_ fun _ => ?_ | with_reducible refine frA_ite ?_ ?_ | omega
theorem fr_F_Riddles_bedOf {x1 : Int32} : frA (F_Riddles_bedOf x1) := by
  unfold F_Riddles_bedOf
  repeat' first | with_reducible exact frA_rt | with_reducible exact frA_rd | with_reducible exact frA_ld | with_reducible refine frA_wr ?_ | with_reducible refine frA_sr ?_ | with_reducible exact frA_gd | with_reducible exact frA_gdZ | with_reducible exact fr_F_Riddles_allowBeds | with_reducible refine fr_F_Matching_firstPlace ?_ | with_reducible refine frA_bn ?_ fun _ => ?_ | with_reducible refine frA_ite ?_ ?_ | omega
theorem fr_F_Riddles_bootsAbed : frA F_Riddles_bootsAbed := by
  unfold F_Riddles_bootsAbed
  repeat' first | with_reducible exact frA_rt | with_reducible exact frA_rd | with_reducible exact frA_ld | with_reducible refine frA_wr ?_ | with_reducible refine frA_sr ?_ | with_reducible exact frA_gd | with_reducible exact frA_gdZ | with_reducible exact fr_F_Riddles_allowBeds | with_reducible refine fr_F_Matching_most ?_ | with_reducible refine frA_bn ?_ fun _ => ?_ | with_reducible refine frA_ite ?_ ?_ | omega
theorem fr_F_A_beds {x1 : Int32} : frA (F_A_beds x1) := by
  unfold F_A_beds
  repeat' first | with_reducible exact frA_rt | with_reducible exact frA_rd | with_reducible exact frA_ld | with_reducible refine frA_wr ?_ | with_reducible refine frA_sr ?_ | with_reducible exact frA_gd | with_reducible exact frA_gdZ | with_reducible exact fr_F_Riddles_bootsAbed | with_reducible exact fr_F_Riddles_bedOf | with_reducible refine frA_bn ?_ fun _ => ?_ | with_reducible refine frA_ite ?_ ?_ | omega
theorem fr_B_Riddles_commonDivisor_3 {y : Int64 × Int64 × Int32 × Int64} : frA (B_Riddles_commonDivisor_3 y) := by
  unfold B_Riddles_commonDivisor_3
  repeat' first | with_reducible exact frA_rt | with_reducible exact frA_rd | with_reducible exact frA_ld | with_reducible refine frA_wr ?_ | with_reducible refine frA_sr ?_ | with_reducible exact frA_gd | with_reducible exact frA_gdZ | with_reducible refine frA_bn ?_ fun _ => ?_ | with_reducible refine frA_ite ?_ ?_ | with_reducible refine frA_dvJ ?_ | omega
theorem fr_K_Riddles_commonDivisor_3 {j0 : Int64} {j2 : Int64} {x4 : Int32} {j5 : Int64} : frA (K_Riddles_commonDivisor_3 j0 j2 x4 j5) := by
  unfold K_Riddles_commonDivisor_3
  repeat' first | with_reducible exact frA_rt | with_reducible exact frA_rd | with_reducible exact frA_ld | with_reducible refine frA_wr ?_ | with_reducible refine frA_sr ?_ | with_reducible exact frA_gd | with_reducible exact frA_gdZ | with_reducible exact fr_B_Riddles_commonDivisor_3 | with_reducible refine frA_bn ?_ fun _ => ?_ | with_reducible refine frA_ite ?_ ?_ | with_reducible refine frA_lp fun _ => ?_ | omega
theorem fr_K_Riddles_commonDivisor_17 {j0 : Int64} {j2 : Int64} {x4 : Int32} : frA (K_Riddles_commonDivisor_17 j0 j2 x4) := by
  unfold K_Riddles_commonDivisor_17
  repeat' first | with_reducible exact frA_rt | with_reducible exact frA_rd | with_reducible exact frA_ld | with_reducible refine frA_wr ?_ | with_reducible refine frA_sr ?_ | with_reducible exact frA_gd | with_reducible exact frA_gdZ | with_reducible exact fr_K_Riddles_commonDivisor_3 | with_reducible refine frA_bn ?_ fun _ => ?_ | with_reducible refine frA_ite ?_ ?_ | with_reducible refine frA_dvJ ?_ | omega
theorem fr_F_Riddles_commonDivisor {j0 : Int64} {j2 : Int64} : frA (F_Riddles_commonDivisor j0 j2) := by
  unfold F_Riddles_commonDivisor
  repeat' first | with_reducible exact frA_rt | with_reducible exact frA_rd | with_reducible exact frA_ld | with_reducible refine frA_wr ?_ | with_reducible refine frA_sr ?_ | with_reducible exact frA_gd | with_reducible exact frA_gdZ | with_reducible exact fr_K_Riddles_commonDivisor_17 | with_reducible refine frA_bn ?_ fun _ => ?_ | with_reducible refine frA_ite ?_ ?_ | omega
theorem fr_B_Riddles_together_9 {x1 : Int32} {x2 : Int32} {x3 : Int32} {y : Int64 × Int64 × Int32} : frA (B_Riddles_together_9 x1 x2 x3 y) := by
  unfold B_Riddles_together_9
  repeat' first | with_reducible exact frA_rt | with_reducible exact frA_rd | with_reducible exact frA_ld | with_reducible refine frA_wr ?_ | with_reducible refine frA_sr ?_ | with_reducible exact frA_gd | with_reducible exact frA_gdZ | with_reducible refine frA_bn ?_ fun _ => ?_ | with_reducible refine frA_ite ?_ ?_ | omega
theorem fr_K_Riddles_together_42 {x3 : Int32} {j4 : Int64} {j6 : Int64} : frA (K_Riddles_together_42 x3 j4 j6) := by
  unfold K_Riddles_together_42
  repeat' first | with_reducible exact frA_rt | with_reducible exact frA_rd | with_reducible exact frA_ld | with_reducible refine frA_wr ?_ | with_reducible refine frA_sr ?_ | with_reducible exact frA_gd | with_reducible exact frA_gdZ | with_reducible exact fr_F_Riddles_commonDivisor | with_reducible refine frA_bn ?_ fun _ => ?_ | with_reducible refine frA_ite ?_ ?_ | with_reducible refine frA_dvJ ?_ | omega
theorem fr_K_Riddles_together_9 {x1 : Int32} {x2 : Int32} {x3 : Int32} {j4 : Int64} {j6 : Int64} {x8 : Int32} : frA (K_Riddles_together_9 x1 x2 x3 j4 j6 x8) := by
  unfold K_Riddles_together_9
  repeat' first | with_reducible exact frA_rt | with_reducible exact frA_rd | with_reducible exact frA_ld | with_reducible refine frA_wr ?_ | with_reducible refine frA_sr ?_ | with_reducible exact frA_gd | with_reducible exact frA_gdZ | with_reducible exact fr_B_Riddles_together_9 | with_reducible exact fr_K_Riddles_together_42 | with_reducible refine frA_bn ?_ fun _ => ?_ | with_reducible refine frA_ite ?_ ?_ | with_reducible refine frA_lp fun _ => ?_ | omega
theorem fr_F_Riddles_together {x1 : Int32} {x2 : Int32} {x3 : Int32} : frA (F_Riddles_together x1 x2 x3) := by
  unfold F_Riddles_together
  repeat' first | with_reducible exact frA_rt | with_reducible exact frA_rd | with_reducible exact frA_ld | with_reducible refine frA_wr ?_ | with_reducible refine frA_sr ?_ | with_reducible exact frA_gd | with_reducible exact frA_gdZ | with_reducible exact fr_K_Riddles_together_9 | with_reducible refine frA_bn ?_ fun _ => ?_ | with_reducible refine frA_ite ?_ ?_ | omega
theorem fr_F_A_birthdays {x1 : Int32} {x2 : Int32} {x3 : Int32} : frA (F_A_birthdays x1 x2 x3) := by
  unfold F_A_birthdays
  repeat' first | with_reducible exact frA_rt | with_reducible exact frA_rd | with_reducible exact frA_ld | with_reducible refine frA_wr ?_ | with_reducible refine frA_sr ?_ | with_reducible exact frA_gd | with_reducible exact frA_gdZ | with_reducible exact fr_F_A_within | with_reducible exact fr_F_Riddles_together | with_reducible refine frA_bn ?_ fun _ => ?_ | with_reducible refine frA_ite ?_ ?_ | omega
theorem fr_K_Book_cell_32 {r0 : Nat} {x2 : Int32} {x3 : Int32} : frA (K_Book_cell_32 r0 x2 x3) := by
  unfold K_Book_cell_32
  repeat' first | with_reducible exact frA_rt | with_reducible exact frA_rd | with_reducible exact frA_ld | with_reducible refine frA_wr ?_ | with_reducible refine frA_sr ?_ | with_reducible exact frA_gd | with_reducible exact frA_gdZ | with_reducible refine frA_bn ?_ fun _ => ?_ | with_reducible refine frA_ite ?_ ?_ | omega
theorem fr_F_Book_cell {r0 : Nat} {r1 : Nat} {x2 : Int32} {x3 : Int32} : frA (F_Book_cell r0 r1 x2 x3) := by
  unfold F_Book_cell
  repeat' first | with_reducible exact frA_rt | with_reducible exact frA_rd | with_reducible exact frA_ld | with_reducible refine frA_wr ?_ | with_reducible refine frA_sr ?_ | with_reducible exact frA_gd | with_reducible exact frA_gdZ | with_reducible exact fr_K_Book_cell_32 | with_reducible refine frA_bn ?_ fun _ => ?_ | with_reducible refine frA_ite ?_ ?_ | omega
theorem fr_F_A_book {x1 : Int32} {x2 : Int32} : frA (F_A_book x1 x2) := by
  unfold F_A_book
  repeat' first | with_reducible exact frA_rt | with_reducible exact frA_rd | with_reducible exact frA_ld | with_reducible refine frA_wr ?_ | with_reducible refine frA_sr ?_ | with_reducible exact frA_gd | with_reducible exact frA_gdZ | with_reducible exact fr_F_Book_cell | with_reducible refine frA_bn ?_ fun _ => ?_ | with_reducible refine frA_ite ?_ ?_ | omega
theorem fr_F_A_boot {x1 : Int32} : frA (F_A_boot x1) := by
  unfold F_A_boot
  repeat' first | with_reducible exact frA_rt | with_reducible exact frA_rd | with_reducible exact frA_ld | with_reducible refine frA_wr ?_ | with_reducible refine frA_sr ?_ | with_reducible exact frA_gd | with_reducible exact frA_gdZ | with_reducible refine fr_F_Table_wipe ?_ | with_reducible exact fr_F_A_within | with_reducible refine fr_F_Table_put ?_ | with_reducible refine frA_bn ?_ fun _ => ?_ | with_reducible refine frA_ite ?_ ?_ | omega
theorem fr_F_A_box {x1 : Int32} : frA (F_A_box x1) := by
  unfold F_A_box
  repeat' first | with_reducible exact frA_rt | with_reducible exact frA_rd | with_reducible exact frA_ld | with_reducible refine frA_wr ?_ | with_reducible refine frA_sr ?_ | with_reducible exact frA_gd | with_reducible exact frA_gdZ | with_reducible refine fr_F_Table_wipe ?_ | with_reducible exact fr_F_A_within | with_reducible refine fr_F_Table_put ?_ | with_reducible refine frA_bn ?_ fun _ => ?_ | with_reducible refine frA_ite ?_ ?_ | omega
theorem fr_F_A_end {x1 : Int32} : frA (F_A_end x1) := by
  unfold F_A_end
  repeat' first | with_reducible exact frA_rt | with_reducible exact frA_rd | with_reducible exact frA_ld | with_reducible refine frA_wr ?_ | with_reducible refine frA_sr ?_ | with_reducible exact frA_gd | with_reducible exact frA_gdZ | with_reducible exact fr_F_A_within | with_reducible refine frA_bn ?_ fun _ => ?_ | with_reducible refine frA_ite ?_ ?_ | omega
theorem fr_F_A_fault {x1 : Int32} : frA (F_A_fault x1) := by
  unfold F_A_fault
  repeat' first | with_reducible exact frA_rt | with_reducible exact frA_rd | with_reducible exact frA_ld | with_reducible refine frA_wr ?_ | with_reducible refine frA_sr ?_ | with_reducible exact frA_gd | with_reducible exact frA_gdZ | with_reducible refine frA_bn ?_ fun _ => ?_ | with_reducible refine frA_ite ?_ ?_ | omega
theorem fr_F_Reader_hasRoom : frA F_Reader_hasRoom := by
  unfold F_Reader_hasRoom
  repeat' first | with_reducible exact frA_rt | with_reducible exact frA_rd | with_reducible exact frA_ld | with_reducible refine frA_wr ?_ | with_reducible refine frA_sr ?_ | with_reducible exact frA_gd | with_reducible exact frA_gdZ | with_reducible refine frA_bn ?_ fun _ => ?_ | with_reducible refine frA_ite ?_ ?_ | omega
theorem fr_B_Reader_take_3 {x1 : Int32} {y : Int32} : frA (B_Reader_take_3 x1 y) := by
  unfold B_Reader_take_3
  repeat' first | with_reducible exact frA_rt | with_reducible exact frA_rd | with_reducible exact frA_ld | with_reducible refine frA_wr ?_ | with_reducible refine frA_sr ?_ | with_reducible exact frA_gd | with_reducible exact frA_gdZ | with_reducible refine frA_bn ?_ fun _ => ?_ | with_reducible refine frA_ite ?_ ?_ | omega
theorem fr_K_Reader_take_3 {x1 : Int32} {x2 : Int32} : frA (K_Reader_take_3 x1 x2) := by
  unfold K_Reader_take_3
  repeat' first | with_reducible exact frA_rt | with_reducible exact frA_rd | with_reducible exact frA_ld | with_reducible refine frA_wr ?_ | with_reducible refine frA_sr ?_ | with_reducible exact frA_gd | with_reducible exact frA_gdZ | with_reducible exact fr_B_Reader_take_3 | with_reducible refine frA_bn ?_ fun _ => ?_ | with_reducible refine frA_ite ?_ ?_ | with_reducible refine frA_lp fun _ => ?_ | omega
theorem fr_F_Reader_take {x1 : Int32} : frA (F_Reader_take x1) := by
  unfold F_Reader_take
  repeat' first | with_reducible exact frA_rt | with_reducible exact frA_rd | with_reducible exact frA_ld | with_reducible refine frA_wr ?_ | with_reducible refine frA_sr ?_ | with_reducible exact frA_gd | with_reducible exact frA_gdZ | with_reducible exact fr_K_Reader_take_3 | with_reducible refine frA_bn ?_ fun _ => ?_ | with_reducible refine frA_ite ?_ ?_ | omega
theorem fr_F_A_feed {x1 : Int32} {x2 : Int32} {x3 : Int32} {x4 : Int32} {x5 : Int32} : frA (F_A_feed x1 x2 x3 x4 x5) := by
  unfold F_A_feed
  repeat' first | with_reducible exact frA_rt | with_reducible exact frA_rd | with_reducible exact frA_ld | with_reducible refine frA_wr ?_ | with_reducible refine frA_sr ?_ | with_reducible exact frA_gd | with_reducible exact frA_gdZ | with_reducible exact fr_F_Reader_hasRoom | with_reducible exact fr_F_Reader_take | with_reducible refine frA_bn ?_ fun _ => ?_ | with_reducible refine frA_ite ?_ ?_ | omega
theorem fr_F_Riddles_leavesLost {x1 : Int32} {x2 : Int32} : frA (F_Riddles_leavesLost x1 x2) := by
  unfold F_Riddles_leavesLost
  repeat' first | with_reducible exact frA_rt | with_reducible exact frA_rd | with_reducible exact frA_ld | with_reducible refine frA_wr ?_ | with_reducible refine frA_sr ?_ | with_reducible exact frA_gd | with_reducible exact frA_gdZ | with_reducible exact fr_F_A_within | with_reducible refine frA_bn ?_ fun _ => ?_ | with_reducible refine frA_ite ?_ ?_ | omega
theorem fr_K_Riddles_goodTake_83 {x1 : Int32} {x2 : Int32} {x3 : Int32} {x4 : Int32} {x5 : Int32} : frA (K_Riddles_goodTake_83 x1 x2 x3 x4 x5) := by
  unfold K_Riddles_goodTake_83
  repeat' first | with_reducible exact frA_rt | with_reducible exact frA_rd | with_reducible exact frA_ld | with_reducible refine frA_wr ?_ | with_reducible refine frA_sr ?_ | with_reducible exact frA_gd | with_reducible exact frA_gdZ | with_reducible refine frA_bn ?_ fun _ => ?_ | with_reducible refine frA_ite ?_ ?_ | omega
theorem fr_B_Riddles_goodTake_3 {x1 : Int32} {x2 : Int32} {x3 : Int32} {y : Int32} : frA (B_Riddles_goodTake_3 x1 x2 x3 y) := by
  unfold B_Riddles_goodTake_3
  repeat' first | with_reducible exact frA_rt | with_reducible exact frA_rd | with_reducible exact frA_ld | with_reducible refine frA_wr ?_ | with_reducible refine frA_sr ?_ | with_reducible exact frA_gd | with_reducible exact frA_gdZ | with_reducible exact fr_F_Riddles_leavesLost | with_reducible exact fr_K_Riddles_goodTake_83 | with_reducible refine frA_bn ?_ fun _ => ?_ | with_reducible refine frA_ite ?_ ?_ | with_reducible refine frA_dvI ?_ | omega
theorem fr_K_Riddles_goodTake_89 {x3 : Int32} {x4 : Int32} {x5 : Int32} : frA (K_Riddles_goodTake_89 x3 x4 x5) := by
  unfold K_Riddles_goodTake_89
  repeat' first | with_reducible exact frA_rt | with_reducible exact frA_rd | with_reducible exact frA_ld | with_reducible refine frA_wr ?_ | with_reducible refine frA_sr ?_ | with_reducible exact frA_gd | with_reducible exact frA_gdZ | with_reducible refine frA_bn ?_ fun _ => ?_ | with_reducible refine frA_ite ?_ ?_ | omega
theorem fr_K_Riddles_goodTake_3 {x1 : Int32} {x2 : Int32} {x3 : Int32} {x4 : Int32} : frA (K_Riddles_goodTake_3 x1 x2 x3 x4) := by
  unfold K_Riddles_goodTake_3
  repeat' first | with_reducible exact frA_rt | with_reducible exact frA_rd | with_reducible exact frA_ld | with_reducible refine frA_wr ?_ | with_reducible refine frA_sr ?_ | with_reducible exact frA_gd | with_reducible exact frA_gdZ | with_reducible exact fr_B_Riddles_goodTake_3 | with_reducible exact fr_K_Riddles_goodTake_89 | with_reducible refine frA_bn ?_ fun _ => ?_ | with_reducible refine frA_ite ?_ ?_ | with_reducible refine frA_lp fun _ => ?_ | split | omega
theorem fr_F_Riddles_goodTake {x1 : Int32} {x2 : Int32} {x3 : Int32} : frA (F_Riddles_goodTake x1 x2 x3) := by
  unfold F_Riddles_goodTake
  repeat' first | with_reducible exact frA_rt | with_reducible exact frA_rd | with_reducible exact frA_ld | with_reducible refine frA_wr ?_ | with_reducible refine frA_sr ?_ | with_reducible exact frA_gd | with_reducible exact frA_gdZ | with_reducible exact fr_K_Riddles_goodTake_3 | with_reducible refine frA_bn ?_ fun _ => ?_ | with_reducible refine frA_ite ?_ ?_ | omega
theorem fr_K_A_game_33 {x1 : Int32} {x2 : Int32} {x3 : Int32} : frA (K_A_game_33 x1 x2 x3) := by
  unfold K_A_game_33
  repeat' first | with_reducible exact frA_rt | with_reducible exact frA_rd | with_reducible exact frA_ld | with_reducible refine frA_wr ?_ | with_reducible refine frA_sr ?_ | with_reducible exact frA_gd | with_reducible exact frA_gdZ | with_reducible exact fr_F_Riddles_goodTake | with_reducible refine frA_bn ?_ fun _ => ?_ | with_reducible refine frA_ite ?_ ?_ | omega
theorem fr_F_A_game {x1 : Int32} {x2 : Int32} {x3 : Int32} : frA (F_A_game x1 x2 x3) := by
  unfold F_A_game
  repeat' first | with_reducible exact frA_rt | with_reducible exact frA_rd | with_reducible exact frA_ld | with_reducible refine frA_wr ?_ | with_reducible refine frA_sr ?_ | with_reducible exact frA_gd | with_reducible exact frA_gdZ | with_reducible exact fr_F_A_within | with_reducible exact fr_K_A_game_33 | with_reducible exact fr_F_Riddles_goodTake | with_reducible refine frA_bn ?_ fun _ => ?_ | with_reducible refine frA_ite ?_ ?_ | omega
theorem fr_F_World_draw {r0 : Nat} {x1 : Int32} (hr0 : r0 + 0 < 207) : frA (F_World_draw r0 x1) := by
  unfold F_World_draw
  repeat' first | with_reducible exact frA_rt | with_reducible exact frA_rd | with_reducible exact frA_ld | with_reducible refine frA_wr ?_ | with_reducible refine frA_sr ?_ | with_reducible exact frA_gd | with_reducible exact frA_gdZ | with_reducible refine frA_bn ?_ fun _ => ?_ | with_reducible refine frA_ite ?_ ?_ | with_reducible refine frA_dvI ?_ | omega
theorem fr_F_Hours_isSeen {r0 : Nat} {x1 : Int32} : frA (F_Hours_isSeen r0 x1) := by
  have hhr0 := hw_le r0
  unfold F_Hours_isSeen
  repeat' first | with_reducible exact frA_rt | with_reducible exact frA_rd | with_reducible exact frA_ld | with_reducible refine frA_wr ?_ | with_reducible refine frA_sr ?_ | with_reducible exact frA_gd | with_reducible exact frA_gdZ | with_reducible refine fr_F_World_draw ?_ | with_reducible refine frA_bn ?_ fun _ => ?_ | with_reducible refine frA_ite ?_ ?_ | omega
theorem fr_F_Hours_note {r0 : Nat} {x1 : Int32} {x2 : Int32} {x3 : Int32} : frA (F_Hours_note r0 x1 x2 x3) := by
  have hhr0 := hw_le r0
  unfold F_Hours_note
  repeat' first | with_reducible exact frA_rt | with_reducible exact frA_rd | with_reducible exact frA_ld | with_reducible refine frA_wr ?_ | with_reducible refine frA_sr ?_ | with_reducible exact frA_gd | with_reducible exact frA_gdZ | with_reducible refine fr_F_Book_write ?_ ?_ | with_reducible refine frA_bn ?_ fun _ => ?_ | with_reducible refine frA_ite ?_ ?_ | omega
theorem fr_F_Law_untold {r0 : Nat} {x1 : Int32} {x2 : Int32} : frA (F_Law_untold r0 x1 x2) := by
  unfold F_Law_untold
  repeat' first | with_reducible exact frA_rt | with_reducible exact frA_rd | with_reducible exact frA_ld | with_reducible refine frA_wr ?_ | with_reducible refine frA_sr ?_ | with_reducible exact frA_gd | with_reducible exact frA_gdZ | with_reducible refine frA_bn ?_ fun _ => ?_ | with_reducible refine frA_ite ?_ ?_ | omega
theorem fr_F_Law_joined {x0 : Int32} {x1 : Int32} {x2 : Int32} : frA (F_Law_joined x0 x1 x2) := by
  unfold F_Law_joined
  repeat' first | with_reducible exact frA_rt | with_reducible exact frA_rd | with_reducible exact frA_ld | with_reducible refine frA_wr ?_ | with_reducible refine frA_sr ?_ | with_reducible exact frA_gd | with_reducible exact frA_gdZ | with_reducible refine frA_bn ?_ fun _ => ?_ | with_reducible refine frA_ite ?_ ?_ | with_reducible refine frA_dvI ?_ | omega
theorem fr_F_Integer_bitCount {x0 : Int32} : frA (F_Integer_bitCount x0) := by
  unfold F_Integer_bitCount
  repeat' first | with_reducible exact frA_rt | with_reducible exact frA_rd | with_reducible exact frA_ld | with_reducible refine frA_wr ?_ | with_reducible refine frA_sr ?_ | with_reducible exact frA_gd | with_reducible exact frA_gdZ | with_reducible refine frA_bn ?_ fun _ => ?_ | with_reducible refine frA_ite ?_ ?_ | omega
theorem fr_B_World_outIn_4 {r0 : Nat} {x1 : Int32} {y : Int32 × Int32} : frA (B_World_outIn_4 r0 x1 y) := by
  unfold B_World_outIn_4
  repeat' first | with_reducible exact frA_rt | with_reducible exact frA_rd | with_reducible exact frA_ld | with_reducible refine frA_wr ?_ | with_reducible refine frA_sr ?_ | with_reducible exact frA_gd | with_reducible exact frA_gdZ | with_reducible refine frA_bn ?_ fun _ => ?_ | with_reducible refine frA_ite ?_ ?_ | omega
theorem fr_K_World_outIn_4 {r0 : Nat} {x1 : Int32} {x2 : Int32} {x3 : Int32} : frA (K_World_outIn_4 r0 x1 x2 x3) := by
  unfold K_World_outIn_4
  repeat' first | with_reducible exact frA_rt | with_reducible exact frA_rd | with_reducible exact frA_ld | with_reducible refine frA_wr ?_ | with_reducible refine frA_sr ?_ | with_reducible exact frA_gd | with_reducible exact frA_gdZ | with_reducible exact fr_B_World_outIn_4 | with_reducible refine frA_bn ?_ fun _ => ?_ | with_reducible refine frA_ite ?_ ?_ | with_reducible refine frA_lp fun _ => ?_ | omega
theorem fr_F_World_outIn {r0 : Nat} {x1 : Int32} : frA (F_World_outIn r0 x1) := by
  unfold F_World_outIn
  repeat' first | with_reducible exact frA_rt | with_reducible exact frA_rd | with_reducible exact frA_ld | with_reducible refine frA_wr ?_ | with_reducible refine frA_sr ?_ | with_reducible exact frA_gd | with_reducible exact frA_gdZ | with_reducible exact fr_K_World_outIn_4 | with_reducible refine frA_bn ?_ fun _ => ?_ | with_reducible refine frA_ite ?_ ?_ | omega
theorem fr_F_World_othersBeside {r0 : Nat} {x1 : Int32} : frA (F_World_othersBeside r0 x1) := by
  unfold F_World_othersBeside
  repeat' first | with_reducible exact frA_rt | with_reducible exact frA_rd | with_reducible exact frA_ld | with_reducible refine frA_wr ?_ | with_reducible refine frA_sr ?_ | with_reducible exact frA_gd | with_reducible exact frA_gdZ | with_reducible exact fr_F_World_outIn | with_reducible exact fr_F_Integer_bitCount | with_reducible refine frA_bn ?_ fun _ => ?_ | with_reducible refine frA_ite ?_ ?_ | omega
theorem fr_F_Law_wordWorth {r0 : Nat} {x1 : Int32} {x2 : Int32} : frA (F_Law_wordWorth r0 x1 x2) := by
  unfold F_Law_wordWorth
  repeat' first | with_reducible exact frA_rt | with_reducible exact frA_rd | with_reducible exact frA_ld | with_reducible refine frA_wr ?_ | with_reducible refine frA_sr ?_ | with_reducible exact frA_gd | with_reducible exact frA_gdZ | with_reducible exact fr_F_World_othersBeside | with_reducible refine frA_bn ?_ fun _ => ?_ | with_reducible refine frA_ite ?_ ?_ | omega
theorem fr_K_Law_worth_49 {r0 : Nat} {r1 : Nat} {x2 : Int32} {x4 : Int32} {x5 : Int32} {x6 : Int32} {x7 : Int32} (hr0 : r0 + 4 < 207) : frA (K_Law_worth_49 r0 r1 x2 x4 x5 x6 x7) := by
  unfold K_Law_worth_49
  repeat' first | with_reducible exact frA_rt | with_reducible exact frA_rd | with_reducible exact frA_ld | with_reducible refine frA_wr ?_ | with_reducible refine frA_sr ?_ | with_reducible exact frA_gd | with_reducible exact frA_gdZ | with_reducible exact fr_F_Law_wordWorth | with_reducible refine frA_bn ?_ fun _ => ?_ | with_reducible refine frA_ite ?_ ?_ | omega
theorem fr_B_Law_worth_6 {r0 : Nat} {r1 : Nat} {x2 : Int32} {x4 : Int32} {y : Int32 × Int32} (hr0 : r0 + 4 < 207) : frA (B_Law_worth_6 r0 r1 x2 x4 y) := by
  unfold B_Law_worth_6
  repeat' first | with_reducible exact frA_rt | with_reducible exact frA_rd | with_reducible exact frA_ld | with_reducible refine frA_wr ?_ | with_reducible refine frA_sr ?_ | with_reducible exact frA_gd | with_reducible exact frA_gdZ | with_reducible exact fr_F_Law_joined | with_reducible refine fr_K_Law_worth_49 ?_ | with_reducible refine frA_bn ?_ fun _ => ?_ | with_reducible refine frA_ite ?_ ?_ | omega
theorem fr_K_Law_worth_176 {r0 : Nat} {x5 : Int32} : frA (K_Law_worth_176 r0 x5) := by
  unfold K_Law_worth_176
  repeat' first | with_reducible exact frA_rt | with_reducible exact frA_rd | with_reducible exact frA_ld | with_reducible refine frA_wr ?_ | with_reducible refine frA_sr ?_ | with_reducible exact frA_gd | with_reducible exact frA_gdZ | with_reducible refine frA_bn ?_ fun _ => ?_ | with_reducible refine frA_ite ?_ ?_ | omega
theorem fr_K_Law_worth_6 {r0 : Nat} {r1 : Nat} {x2 : Int32} {x4 : Int32} {x5 : Int32} {x6 : Int32} (hr0 : r0 + 4 < 207) : frA (K_Law_worth_6 r0 r1 x2 x4 x5 x6) := by
  unfold K_Law_worth_6
  repeat' first | with_reducible exact frA_rt | with_reducible exact frA_rd | with_reducible exact frA_ld | with_reducible refine frA_wr ?_ | with_reducible refine frA_sr ?_ | with_reducible exact frA_gd | with_reducible exact frA_gdZ | with_reducible refine fr_B_Law_worth_6 ?_ | with_reducible exact fr_K_Law_worth_176 | with_reducible refine frA_bn ?_ fun _ => ?_ | with_reducible refine frA_ite ?_ ?_ | with_reducible refine frA_lp fun _ => ?_ | split | omega
theorem fr_F_Law_worth {r0 : Nat} {r1 : Nat} {x2 : Int32} {x3 : Int32} {x4 : Int32} (hr0 : r0 + 4 < 207) : frA (F_Law_worth r0 r1 x2 x3 x4) := by
  unfold F_Law_worth
  repeat' first | with_reducible exact frA_rt | with_reducible exact frA_rd | with_reducible exact frA_ld | with_reducible refine frA_wr ?_ | with_reducible refine frA_sr ?_ | with_reducible exact frA_gd | with_reducible exact frA_gdZ | with_reducible refine fr_K_Law_worth_6 ?_ | with_reducible refine frA_bn ?_ fun _ => ?_ | with_reducible refine frA_ite ?_ ?_ | omega
theorem fr_B_Law_tells_11 {r0 : Nat} {r1 : Nat} {x2 : Int32} {x3 : Int32} {x4 : Int32} {y : Int32} (hr0 : r0 + 4 < 207) : frA (B_Law_tells_11 r0 r1 x2 x3 x4 y) := by
  unfold B_Law_tells_11
  repeat' first | with_reducible exact frA_rt | with_reducible exact frA_rd | with_reducible exact frA_ld | with_reducible refine frA_wr ?_ | with_reducible refine frA_sr ?_ | with_reducible exact frA_gd | with_reducible exact frA_gdZ | with_reducible exact fr_F_Table_at | with_reducible refine fr_F_Law_worth ?_ | with_reducible refine frA_bn ?_ fun _ => ?_ | with_reducible refine frA_ite ?_ ?_ | omega
theorem fr_K_Law_tells_122 {x3 : Int32} {x4 : Int32} : frA (K_Law_tells_122 x3 x4) := by
  unfold K_Law_tells_122
  repeat' first | with_reducible exact frA_rt | with_reducible exact frA_rd | with_reducible exact frA_ld | with_reducible refine frA_wr ?_ | with_reducible refine frA_sr ?_ | with_reducible exact frA_gd | with_reducible exact frA_gdZ | with_reducible refine frA_bn ?_ fun _ => ?_ | with_reducible refine frA_ite ?_ ?_ | omega
theorem fr_K_Law_tells_93 {r0 : Nat} {r1 : Nat} {x2 : Int32} {x3 : Int32} {x5 : Int32} {x6 : Int32} (hr0 : r0 + 4 < 207) : frA (K_Law_tells_93 r0 r1 x2 x3 x5 x6) := by
  unfold K_Law_tells_93
  repeat' first | with_reducible exact frA_rt | with_reducible exact frA_rd | with_reducible exact frA_ld | with_reducible refine frA_wr ?_ | with_reducible refine frA_sr ?_ | with_reducible exact frA_gd | with_reducible exact frA_gdZ | with_reducible exact fr_F_Table_at | with_reducible refine fr_F_Law_worth ?_ | with_reducible exact fr_K_Law_tells_122 | with_reducible refine frA_bn ?_ fun _ => ?_ | with_reducible refine frA_ite ?_ ?_ | omega
theorem fr_K_Law_tells_11 {r0 : Nat} {r1 : Nat} {x2 : Int32} {x3 : Int32} {x4 : Int32} {x5 : Int32} (hr0 : r0 + 4 < 207) : frA (K_Law_tells_11 r0 r1 x2 x3 x4 x5) := by
  unfold K_Law_tells_11
  repeat' first | with_reducible exact frA_rt | with_reducible exact frA_rd | with_reducible exact frA_ld | with_reducible refine frA_wr ?_ | with_reducible refine frA_sr ?_ | with_reducible exact frA_gd | with_reducible exact frA_gdZ | with_reducible refine fr_B_Law_tells_11 ?_ | with_reducible refine fr_K_Law_tells_93 ?_ | with_reducible exact fr_K_Law_tells_122 | with_reducible refine frA_bn ?_ fun _ => ?_ | with_reducible refine frA_ite ?_ ?_ | with_reducible refine frA_lp fun _ => ?_ | split | omega
theorem fr_F_Law_tells {r0 : Nat} {r1 : Nat} {x2 : Int32} {x3 : Int32} (hr0 : r0 + 4 < 207) : frA (F_Law_tells r0 r1 x2 x3) := by
  unfold F_Law_tells
  repeat' first | with_reducible exact frA_rt | with_reducible exact frA_rd | with_reducible exact frA_ld | with_reducible refine frA_wr ?_ | with_reducible refine frA_sr ?_ | with_reducible exact frA_gd | with_reducible exact frA_gdZ | with_reducible exact fr_F_Law_untold | with_reducible refine fr_K_Law_tells_11 ?_ | with_reducible refine frA_bn ?_ fun _ => ?_ | with_reducible refine frA_ite ?_ ?_ | omega
theorem fr_B_World_aliasesOf_5 {r0 : Nat} {x1 : Int32} {x2 : Int32} {y : Int32 × Int32} : frA (B_World_aliasesOf_5 r0 x1 x2 y) := by
  unfold B_World_aliasesOf_5
  repeat' first | with_reducible exact frA_rt | with_reducible exact frA_rd | with_reducible exact frA_ld | with_reducible refine frA_wr ?_ | with_reducible refine frA_sr ?_ | with_reducible exact frA_gd | with_reducible exact frA_gdZ | with_reducible refine frA_bn ?_ fun _ => ?_ | with_reducible refine frA_ite ?_ ?_ | omega
end FRM1
