/-! an image: the reference keeps all, or takes all back -/
section SC44
theorem dq {a n b s i c : Nat} (he : (a, n, b, s) ∈ dmL) (hi : i < n) (hc : c = b + s * i) : dm a i = c := by
  rw [(dm_at he hi).1, hc]
theorem kloop {m : Int32} {J0 J : MI} {body : Int32 → M (Int32 ⊕ Unit)} {n b r c : Nat} {Q : Unit → MI → Prop} (hn : n < 5000) (hc : c = b + r * n)
    (hs : ∀ i J, i < n → KI m J0 (b + r * i) J → Ok (body (nn i)) J fun s J1 => s = .inl (nn (i + 1)) ∧ KI m J0 (b + r * (i + 1)) J1)
    (he : ∀ J, Ok (body (nn n)) J fun s J1 => s = .inr () ∧ J1 = J) (h : KI m J0 b J) (k : ∀ J1, KI m J0 c J1 → Q () J1) : Ok (lp body FU 0) J Q := by
  subst hc
  refine ok_lp (fun i x K => x = nn i ∧ KI m J0 (b + r * i) K) n (fun i x K hi hP => ?_) (fun x K hP => ?_) FU 0 J (by rw [FU_eq]; exact hn) ⟨rfl, by rw [Nat.mul_zero, Nat.add_zero]; exact h⟩
  · obtain ⟨rfl, hK⟩ := hP
    refine ok_mono (hs i K hi hK) fun s J1 q => ?_
    obtain ⟨rfl, q2⟩ := q
    exact ⟨rfl, q2⟩
  · obtain ⟨rfl, hK⟩ := hP
    refine ok_mono (he K) fun s J1 q => ?_
    obtain ⟨rfl, rfl⟩ := q
    exact k _ hK
theorem k_R_image_35 (x1 : Int32) {m : Int32} {J0 J : MI} {Q : Unit → MI → Prop} (h : KI m J0 0 J) (k : ∀ J1, KI m J0 95 J1 → Q () J1) : Ok (lp (B_R_image_35 x1) FU 0) J Q := by
  refine kloop (n := 95) (b := 0) (r := 1) (by decide) (by decide) (fun i K hi hK => ?_) (fun K => ?_) h k
  · have g : nn i < 95 := (nn_lt (k := 95) (by omega) (by omega)).mpr hi
    unfold B_R_image_35
    rw [ok_ite, if_pos g]
    refine kstep hK rfl (by omega) (by decide) (dq (a := 208) (n := 95) (b := 0) (s := 1) (by decide) hi (by omega)) (by omega) (by decide) fun J1 h1 => ?_
    rw [ok_rt]
    refine ⟨congrArg Sum.inl (nn_s i), ?_⟩
    have e : 0 + 1 * i + 1 = 0 + 1 * (i + 1) := by omega
    rw [← e]; exact h1
  · have g : ¬ nn 95 < 95 := by decide
    unfold B_R_image_35
    rw [ok_ite, if_neg g, ok_rt]
    exact ⟨rfl, rfl⟩
theorem k_R_keepsTold_2 {m : Int32} {J0 J : MI} {Q : Unit → MI → Prop} (h : KI m J0 110 J) (k : ∀ J1, KI m J0 164 J1 → Q () J1) : Ok (lp B_R_keepsTold_2 FU 0) J Q := by
  refine kloop (n := 18) (b := 110) (r := 3) (by decide) (by decide) (fun i K hi hK => ?_) (fun K => ?_) h k
  · have g : nn i < 18 := (nn_lt (k := 18) (by omega) (by omega)).mpr hi
    unfold B_R_keepsTold_2
    rw [ok_ite, if_pos g]
    refine kstep hK rfl (by omega) (by decide) (dq (a := 212) (n := 18) (b := 110) (s := 3) (by decide) hi (by omega)) (by omega) (by decide) fun J1 h1 => ?_
    refine kstep h1 rfl (by omega) (by decide) (dq (a := 213) (n := 18) (b := 111) (s := 3) (by decide) hi (by omega)) (by omega) (by decide) fun J2 h2 => ?_
    refine kstep h2 rfl (by omega) (by decide) (dq (a := 214) (n := 18) (b := 112) (s := 3) (by decide) hi (by omega)) (by omega) (by decide) fun J3 h3 => ?_
    rw [ok_rt]
    refine ⟨congrArg Sum.inl (nn_s i), ?_⟩
    have e : 110 + 3 * i + 1 + 1 + 1 = 110 + 3 * (i + 1) := by omega
    rw [← e]; exact h3
  · have g : ¬ nn 18 < 18 := by decide
    unfold B_R_keepsTold_2
    rw [ok_ite, if_neg g, ok_rt]
    exact ⟨rfl, rfl⟩
theorem k_R_keepsTold_64 {m : Int32} {J0 J : MI} {Q : Unit → MI → Prop} (h : KI m J0 164 J) (k : ∀ J1, KI m J0 182 J1 → Q () J1) : Ok (lp B_R_keepsTold_64 FU 0) J Q := by
  refine kloop (n := 6) (b := 164) (r := 3) (by decide) (by decide) (fun i K hi hK => ?_) (fun K => ?_) h k
  · have g : nn i < 6 := (nn_lt (k := 6) (by omega) (by omega)).mpr hi
    unfold B_R_keepsTold_64
    rw [ok_ite, if_pos g]
    refine kstep hK rfl (by omega) (by decide) (dq (a := 211) (n := 6) (b := 164) (s := 3) (by decide) hi (by omega)) (by omega) (by decide) fun J1 h1 => ?_
    refine kstep h1 rfl (by omega) (by decide) (dq (a := 241) (n := 6) (b := 165) (s := 3) (by decide) hi (by omega)) (by omega) (by decide) fun J2 h2 => ?_
    refine kstep h2 rfl (by omega) (by decide) (dq (a := 250) (n := 6) (b := 166) (s := 3) (by decide) hi (by omega)) (by omega) (by decide) fun J3 h3 => ?_
    rw [ok_rt]
    refine ⟨congrArg Sum.inl (nn_s i), ?_⟩
    have e : 164 + 3 * i + 1 + 1 + 1 = 164 + 3 * (i + 1) := by omega
    rw [← e]; exact h3
  · have g : ¬ nn 6 < 6 := by decide
    unfold B_R_keepsTold_64
    rw [ok_ite, if_neg g, ok_rt]
    exact ⟨rfl, rfl⟩
theorem k_R_keepsTold_126 {m : Int32} {J0 J : MI} {Q : Unit → MI → Prop} (h : KI m J0 182 J) (k : ∀ J1, KI m J0 272 J1 → Q () J1) : Ok (lp B_R_keepsTold_126 FU 0) J Q := by
  refine kloop (n := 10) (b := 182) (r := 9) (by decide) (by decide) (fun i K hi hK => ?_) (fun K => ?_) h k
  · have g : nn i < 10 := (nn_lt (k := 10) (by omega) (by omega)).mpr hi
    unfold B_R_keepsTold_126
    rw [ok_ite, if_pos g]
    refine kstep hK rfl (by omega) (by decide) (dq (a := 228) (n := 10) (b := 182) (s := 9) (by decide) hi (by omega)) (by omega) (by decide) fun J1 h1 => ?_
    refine kstep h1 rfl (by omega) (by decide) (dq (a := 231) (n := 10) (b := 183) (s := 9) (by decide) hi (by omega)) (by omega) (by decide) fun J2 h2 => ?_
    refine kstep h2 rfl (by omega) (by decide) (dq (a := 232) (n := 10) (b := 184) (s := 9) (by decide) hi (by omega)) (by omega) (by decide) fun J3 h3 => ?_
    refine kstep h3 rfl (by omega) (by decide) (dq (a := 235) (n := 10) (b := 185) (s := 9) (by decide) hi (by omega)) (by omega) (by decide) fun J4 h4 => ?_
    refine kstep h4 rfl (by omega) (by decide) (dq (a := 236) (n := 10) (b := 186) (s := 9) (by decide) hi (by omega)) (by omega) (by decide) fun J5 h5 => ?_
    refine kstep h5 rfl (by omega) (by decide) (dq (a := 238) (n := 10) (b := 187) (s := 9) (by decide) hi (by omega)) (by omega) (by decide) fun J6 h6 => ?_
    refine kstep h6 rfl (by omega) (by decide) (dq (a := 239) (n := 10) (b := 188) (s := 9) (by decide) hi (by omega)) (by omega) (by decide) fun J7 h7 => ?_
    refine kstep h7 rfl (by omega) (by decide) (dq (a := 240) (n := 10) (b := 189) (s := 9) (by decide) hi (by omega)) (by omega) (by decide) fun J8 h8 => ?_
    refine kstep h8 rfl (by omega) (by decide) (dq (a := 248) (n := 10) (b := 190) (s := 9) (by decide) hi (by omega)) (by omega) (by decide) fun J9 h9 => ?_
    rw [ok_rt]
    refine ⟨congrArg Sum.inl (nn_s i), ?_⟩
    have e : 182 + 9 * i + 1 + 1 + 1 + 1 + 1 + 1 + 1 + 1 + 1 = 182 + 9 * (i + 1) := by omega
    rw [← e]; exact h9
  · have g : ¬ nn 10 < 10 := by decide
    unfold B_R_keepsTold_126
    rw [ok_ite, if_neg g, ok_rt]
    exact ⟨rfl, rfl⟩
theorem k_R_keepsTold_284 {m : Int32} {J0 J : MI} {Q : Unit → MI → Prop} (h : KI m J0 272 J) (k : ∀ J1, KI m J0 296 J1 → Q () J1) : Ok (lp B_R_keepsTold_284 FU 0) J Q := by
  refine kloop (n := 8) (b := 272) (r := 3) (by decide) (by decide) (fun i K hi hK => ?_) (fun K => ?_) h k
  · have g : nn i < 8 := (nn_lt (k := 8) (by omega) (by omega)).mpr hi
    unfold B_R_keepsTold_284
    rw [ok_ite, if_pos g]
    refine kstep hK rfl (by omega) (by decide) (dq (a := 244) (n := 8) (b := 272) (s := 3) (by decide) hi (by omega)) (by omega) (by decide) fun J1 h1 => ?_
    refine kstep h1 rfl (by omega) (by decide) (dq (a := 245) (n := 8) (b := 273) (s := 3) (by decide) hi (by omega)) (by omega) (by decide) fun J2 h2 => ?_
    refine kstep h2 rfl (by omega) (by decide) (dq (a := 246) (n := 8) (b := 274) (s := 3) (by decide) hi (by omega)) (by omega) (by decide) fun J3 h3 => ?_
    rw [ok_rt]
    refine ⟨congrArg Sum.inl (nn_s i), ?_⟩
    have e : 272 + 3 * i + 1 + 1 + 1 = 272 + 3 * (i + 1) := by omega
    rw [← e]; exact h3
  · have g : ¬ nn 8 < 8 := by decide
    unfold B_R_keepsTold_284
    rw [ok_ite, if_neg g, ok_rt]
    exact ⟨rfl, rfl⟩
theorem k_R_keepsTold_346 {m : Int32} {J0 J : MI} {Q : Unit → MI → Prop} (h : KI m J0 296 J) (k : ∀ J1, KI m J0 320 J1 → Q () J1) : Ok (lp B_R_keepsTold_346 FU 0) J Q := by
  refine kloop (n := 24) (b := 296) (r := 1) (by decide) (by decide) (fun i K hi hK => ?_) (fun K => ?_) h k
  · have g : nn i < 24 := (nn_lt (k := 24) (by omega) (by omega)).mpr hi
    unfold B_R_keepsTold_346
    rw [ok_ite, if_pos g]
    refine kstep hK rfl (by omega) (by decide) (dq (a := 243) (n := 24) (b := 296) (s := 1) (by decide) hi (by omega)) (by omega) (by decide) fun J1 h1 => ?_
    rw [ok_rt]
    refine ⟨congrArg Sum.inl (nn_s i), ?_⟩
    have e : 296 + 1 * i + 1 = 296 + 1 * (i + 1) := by omega
    rw [← e]; exact h1
  · have g : ¬ nn 24 < 24 := by decide
    unfold B_R_keepsTold_346
    rw [ok_ite, if_neg g, ok_rt]
    exact ⟨rfl, rfl⟩
theorem k_R_keepsTold_376 {m : Int32} {J0 J : MI} {Q : Unit → MI → Prop} (h : KI m J0 320 J) (k : ∀ J1, KI m J0 384 J1 → Q () J1) : Ok (lp B_R_keepsTold_376 FU 0) J Q := by
  refine kloop (n := 64) (b := 320) (r := 1) (by decide) (by decide) (fun i K hi hK => ?_) (fun K => ?_) h k
  · have g : nn i < 64 := (nn_lt (k := 64) (by omega) (by omega)).mpr hi
    unfold B_R_keepsTold_376
    rw [ok_ite, if_pos g]
    refine kstep hK rfl (by omega) (by decide) (dq (a := 226) (n := 64) (b := 320) (s := 1) (by decide) hi (by omega)) (by omega) (by decide) fun J1 h1 => ?_
    rw [ok_rt]
    refine ⟨congrArg Sum.inl (nn_s i), ?_⟩
    have e : 320 + 1 * i + 1 = 320 + 1 * (i + 1) := by omega
    rw [← e]; exact h1
  · have g : ¬ nn 64 < 64 := by decide
    unfold B_R_keepsTold_376
    rw [ok_ite, if_neg g, ok_rt]
    exact ⟨rfl, rfl⟩
theorem k_R_keepsTold_406 {m : Int32} {J0 J : MI} {Q : Unit → MI → Prop} (h : KI m J0 384 J) (k : ∀ J1, KI m J0 464 J1 → Q () J1) : Ok (lp B_R_keepsTold_406 FU 0) J Q := by
  refine kloop (n := 80) (b := 384) (r := 1) (by decide) (by decide) (fun i K hi hK => ?_) (fun K => ?_) h k
  · have g : nn i < 80 := (nn_lt (k := 80) (by omega) (by omega)).mpr hi
    unfold B_R_keepsTold_406
    rw [ok_ite, if_pos g]
    refine kstep hK rfl (by omega) (by decide) (dq (a := 227) (n := 80) (b := 384) (s := 1) (by decide) hi (by omega)) (by omega) (by decide) fun J1 h1 => ?_
    rw [ok_rt]
    refine ⟨congrArg Sum.inl (nn_s i), ?_⟩
    have e : 384 + 1 * i + 1 = 384 + 1 * (i + 1) := by omega
    rw [← e]; exact h1
  · have g : ¬ nn 80 < 80 := by decide
    unfold B_R_keepsTold_406
    rw [ok_ite, if_neg g, ok_rt]
    exact ⟨rfl, rfl⟩
theorem k_R_image_73 (x1 : Int32) {m : Int32} {J0 J : MI} {Q : Unit → MI → Prop} (h : KI m J0 464 J) (k : ∀ J1, KI m J0 1214 J1 → Q () J1) : Ok (lp (B_R_image_73 x1) FU 0) J Q := by
  refine kloop (n := 750) (b := 464) (r := 1) (by decide) (by decide) (fun i K hi hK => ?_) (fun K => ?_) h k
  · have g : nn i < 750 := (nn_lt (k := 750) (by omega) (by omega)).mpr hi
    unfold B_R_image_73
    rw [ok_ite, if_pos g]
    refine kstep hK rfl (by omega) (by decide) (dq (a := 215) (n := 750) (b := 464) (s := 1) (by decide) hi (by omega)) (by omega) (by decide) fun J1 h1 => ?_
    rw [ok_rt]
    refine ⟨congrArg Sum.inl (nn_s i), ?_⟩
    have e : 464 + 1 * i + 1 = 464 + 1 * (i + 1) := by omega
    rw [← e]; exact h1
  · have g : ¬ nn 750 < 750 := by decide
    unfold B_R_image_73
    rw [ok_ite, if_neg g, ok_rt]
    exact ⟨rfl, rfl⟩
theorem k_R_keepsLaw_18 {m : Int32} {J0 J : MI} {Q : Unit → MI → Prop} (h : KI m J0 1215 J) (k : ∀ J1, KI m J0 1279 J1 → Q () J1) : Ok (lp B_R_keepsLaw_18 FU 0) J Q := by
  refine kloop (n := 16) (b := 1215) (r := 4) (by decide) (by decide) (fun i K hi hK => ?_) (fun K => ?_) h k
  · have g : nn i < 16 := (nn_lt (k := 16) (by omega) (by omega)).mpr hi
    unfold B_R_keepsLaw_18
    rw [ok_ite, if_pos g]
    refine kstep hK rfl (by omega) (by decide) (dq (a := 219) (n := 16) (b := 1215) (s := 4) (by decide) hi (by omega)) (by omega) (by decide) fun J1 h1 => ?_
    refine kstep h1 rfl (by omega) (by decide) (dq (a := 220) (n := 16) (b := 1216) (s := 4) (by decide) hi (by omega)) (by omega) (by decide) fun J2 h2 => ?_
    refine kstep h2 rfl (by omega) (by decide) (dq (a := 221) (n := 16) (b := 1217) (s := 4) (by decide) hi (by omega)) (by omega) (by decide) fun J3 h3 => ?_
    refine kstep h3 rfl (by omega) (by decide) (dq (a := 222) (n := 16) (b := 1218) (s := 4) (by decide) hi (by omega)) (by omega) (by decide) fun J4 h4 => ?_
    rw [ok_rt]
    refine ⟨congrArg Sum.inl (nn_s i), ?_⟩
    have e : 1215 + 4 * i + 1 + 1 + 1 + 1 = 1215 + 4 * (i + 1) := by omega
    rw [← e]; exact h4
  · have g : ¬ nn 16 < 16 := by decide
    unfold B_R_keepsLaw_18
    rw [ok_ite, if_neg g, ok_rt]
    exact ⟨rfl, rfl⟩
theorem k_R_keepsLaw_96 {m : Int32} {J0 J : MI} {Q : Unit → MI → Prop} (h : KI m J0 1279 J) (k : ∀ J1, KI m J0 2079 J1 → Q () J1) : Ok (lp B_R_keepsLaw_96 FU 0) J Q := by
  refine kloop (n := 400) (b := 1279) (r := 2) (by decide) (by decide) (fun i K hi hK => ?_) (fun K => ?_) h k
  · have g : nn i < 400 := (nn_lt (k := 400) (by omega) (by omega)).mpr hi
    unfold B_R_keepsLaw_96
    rw [ok_ite, if_pos g]
    refine kstep hK rfl (by omega) (by decide) (dq (a := 223) (n := 400) (b := 1279) (s := 2) (by decide) hi (by omega)) (by omega) (by decide) fun J1 h1 => ?_
    refine kstep h1 rfl (by omega) (by decide) (dq (a := 224) (n := 400) (b := 1280) (s := 2) (by decide) hi (by omega)) (by omega) (by decide) fun J2 h2 => ?_
    rw [ok_rt]
    refine ⟨congrArg Sum.inl (nn_s i), ?_⟩
    have e : 1279 + 2 * i + 1 + 1 = 1279 + 2 * (i + 1) := by omega
    rw [← e]; exact h2
  · have g : ¬ nn 400 < 400 := by decide
    unfold B_R_keepsLaw_96
    rw [ok_ite, if_neg g, ok_rt]
    exact ⟨rfl, rfl⟩
theorem k_many {m : Int32} {J0 J : MI} {Q : Unit → MI → Prop} (h : KI m J0 95 J) (k : ∀ J1, KI m J0 110 J1 → Q () J1) : Ok F_R_keepsMany J Q := by
  unfold F_R_keepsMany
  refine kfld h (by decide) (by decide) (by decide) fun J1 h1 => ?_
  refine kfld h1 (by decide) (by decide) (by decide) fun J2 h2 => ?_
  refine kfld h2 (by decide) (by decide) (by decide) fun J3 h3 => ?_
  refine kfld h3 (by decide) (by decide) (by decide) fun J4 h4 => ?_
  refine kfld h4 (by decide) (by decide) (by decide) fun J5 h5 => ?_
  refine kfld h5 (by decide) (by decide) (by decide) fun J6 h6 => ?_
  refine kfld h6 (by decide) (by decide) (by decide) fun J7 h7 => ?_
  refine kfld h7 (by decide) (by decide) (by decide) fun J8 h8 => ?_
  refine kfld h8 (by decide) (by decide) (by decide) fun J9 h9 => ?_
  refine kfld h9 (by decide) (by decide) (by decide) fun J10 h10 => ?_
  refine kfld h10 (by decide) (by decide) (by decide) fun J11 h11 => ?_
  refine kfld h11 (by decide) (by decide) (by decide) fun J12 h12 => ?_
  refine kfld h12 (by decide) (by decide) (by decide) fun J13 h13 => ?_
  refine kstep h13 (i := 0) rfl (by decide) (by decide) (dq (a := 242) (n := 2) (b := 108) (s := 1) (by decide) (by decide) (by decide)) (by decide) (by decide) fun J14 h14 => ?_
  refine kstep h14 (i := 1) rfl (by decide) (by decide) (dq (a := 242) (n := 2) (b := 108) (s := 1) (by decide) (by decide) (by decide)) (by decide) (by decide) fun J15 h15 => ?_
  rw [ok_rt]
  exact k _ h15
theorem k_told {m : Int32} {J0 J : MI} {Q : Unit → MI → Prop} (h : KI m J0 110 J) (k : ∀ J1, KI m J0 464 J1 → Q () J1) : Ok F_R_keepsTold J Q := by
  unfold F_R_keepsTold K_R_keepsTold_2 K_R_keepsTold_62 K_R_keepsTold_64 K_R_keepsTold_124 K_R_keepsTold_126 K_R_keepsTold_282 K_R_keepsTold_284 K_R_keepsTold_344 K_R_keepsTold_346 K_R_keepsTold_374 K_R_keepsTold_376 K_R_keepsTold_404 K_R_keepsTold_406
  rw [ok_bn]
  refine k_R_keepsTold_2 h fun J1 h1 => ?_
  rw [ok_bn]
  refine k_R_keepsTold_64 h1 fun J2 h2 => ?_
  rw [ok_bn]
  refine k_R_keepsTold_126 h2 fun J3 h3 => ?_
  rw [ok_bn]
  refine k_R_keepsTold_284 h3 fun J4 h4 => ?_
  rw [ok_bn]
  refine k_R_keepsTold_346 h4 fun J5 h5 => ?_
  rw [ok_bn]
  refine k_R_keepsTold_376 h5 fun J6 h6 => ?_
  exact k_R_keepsTold_406 h6 k
theorem k_law {m : Int32} {J0 J : MI} {Q : Unit → MI → Prop} (h : KI m J0 1214 J) (k : ∀ J1, KI m J0 2079 J1 → Q () J1) : Ok F_R_keepsLaw J Q := by
  unfold F_R_keepsLaw K_R_keepsLaw_18 K_R_keepsLaw_94 K_R_keepsLaw_96
  refine kstep h (i := 0) rfl (by decide) (by decide) (dq (a := 218) (n := 1) (b := 1214) (s := 1) (by decide) (by decide) (by decide)) (by decide) (by decide) fun J1 h1 => ?_
  rw [ok_bn]
  refine k_R_keepsLaw_18 h1 fun J2 h2 => ?_
  exact k_R_keepsLaw_96 h2 k
theorem img_R {m x1 : Int32} {J0 J : MI} (h : KI m J0 0 J) : Ok (K_R_image_35 x1 0) J fun v K => v = 1 ∧ ∃ J1, KI m J0 2079 J1 ∧ K = if x1 = 0 then bup J1 207 (upd (J1 207) 3 0) else J1 := by
  unfold K_R_image_35 K_R_image_63 K_R_image_73 K_R_image_102
  rw [ok_bn]
  refine k_R_image_35 x1 h fun J1 h1 => ?_
  rw [ok_bn]
  refine k_many h1 fun J2 h2 => ?_
  rw [ok_bn]
  refine k_told h2 fun J3 h3 => ?_
  rw [ok_bn]
  refine k_R_image_73 x1 h3 fun J4 h4 => ?_
  rw [ok_bn]
  refine k_law h4 fun J5 h5 => ?_
  by_cases hx : x1 = 0
  · simp (decide := true) only [if_pos hx, ok_bn, ok_wr, ok_gdZ, ok_rt, or_true, true_and]
    exact ⟨J5, h5, rfl⟩
  · simp (decide := true) only [if_neg hx, ok_bn, ok_gdZ, ok_rt, or_true, true_and]
    exact ⟨J5, h5, rfl⟩
end SC44
