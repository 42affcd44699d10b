/-! the law from its loop on (written by wip/tools/gen_f.py) -/
section
variable {L : Nat} {X : Nat → Int32}
set_option maxRecDepth 100000 in
theorem z_L_law : pT[331]? = some (q_L_law, 1, 4, 2, 99) := rfl
def cs_L_law (f_A_act : Int32 → Int32 → Int32 → M Int32) (f_A_alias : Int32 → Int32 → Int32 → M Int32) (f_A_bed : Int32 → Int32 → M Int32) (f_A_beds : Int32 → M Int32) (f_A_birthdays : Int32 → Int32 → Int32 → M Int32) (f_A_book : Int32 → Int32 → M Int32) (f_A_boot : Int32 → M Int32) (f_A_box : Int32 → M Int32) (f_A_end : Int32 → M Int32) (f_A_fault : Int32 → M Int32) (f_A_feed : Int32 → Int32 → Int32 → Int32 → Int32 → M Int32) (f_A_game : Int32 → Int32 → Int32 → M Int32) (f_A_goes : Int32 → Int32 → M Int32) (f_A_hoop : Int32 → Int32 → Int32 → M Int32) (f_A_hours : Int32 → M Int32) (f_A_image : Int32 → M Int32) (f_A_keeps : Int32 → M Int32) (f_A_least : Int32 → M Int32) (f_A_letter : Int32 → Int32 → M Int32) (f_A_loan : Int32 → Int32 → Int32 → M Int32) (f_A_look : Int32 → M Int32) (f_A_named : Int32 → M Int32) (f_A_names : Int32 → M Int32) (f_A_net : Int32 → Int32 → M Int32) (f_A_notes : Int32 → M Int32) (f_A_of : Int32 → Int32 → M Int32) (f_A_pair : Int32 → Int32 → Int32 → M Int32) (f_A_person : Int32 → Int32 → M Int32) (f_A_persons : Int32 → Int32 → M Int32) (f_A_says : Int32 → Int32 → Int32 → M Int32) (f_A_set : Int32 → Int32 → Int32 → M Int32) (f_A_settled : Int32 → M Int32) (f_A_sighted : Int32 → Int32 → M Int32) (f_A_speakers : Int32 → M Int32) (f_A_state : Int32 → M Int32) (f_A_street : Int32 → Int32 → M Int32) (f_A_swings : Int32 → Int32 → M Int32) (f_A_text : Int32 → M Int32) (f_A_undo : M Int32) (f_A_vote : Int32 → M Int32) (f_A_who : Int32 → Int32 → M Int32) (f_R_act : Int32 → Int32 → Int32 → M Int32) (f_R_alias : Int32 → Int32 → Int32 → M Int32) (f_R_bed : Int32 → Int32 → M Int32) (f_R_beds : Int32 → M Int32) (f_R_birthdays : Int32 → Int32 → Int32 → M Int32) (f_R_book : Int32 → Int32 → M Int32) (f_R_boot : Int32 → M Int32) (f_R_box : Int32 → M Int32) (f_R_end : Int32 → M Int32) (f_R_fault : Int32 → M Int32) (f_R_feed : Int32 → Int32 → Int32 → Int32 → Int32 → M Int32) (f_R_game : Int32 → Int32 → Int32 → M Int32) (f_R_goes : Int32 → Int32 → M Int32) (f_R_hoop : Int32 → Int32 → Int32 → M Int32) (f_R_hours : Int32 → M Int32) (f_R_image : Int32 → M Int32) (f_R_keeps : Int32 → M Int32) (f_R_least : Int32 → M Int32) (f_R_letter : Int32 → Int32 → M Int32) (f_R_loan : Int32 → Int32 → Int32 → M Int32) (f_R_look : Int32 → M Int32) (f_R_named : Int32 → M Int32) (f_R_names : Int32 → M Int32) (f_R_net : Int32 → Int32 → M Int32) (f_R_notes : Int32 → M Int32) (f_R_of : Int32 → Int32 → M Int32) (f_R_pair : Int32 → Int32 → Int32 → M Int32) (f_R_person : Int32 → Int32 → M Int32) (f_R_persons : Int32 → Int32 → M Int32) (f_R_says : Int32 → Int32 → Int32 → M Int32) (f_R_set : Int32 → Int32 → Int32 → M Int32) (f_R_settled : Int32 → M Int32) (f_R_sighted : Int32 → Int32 → M Int32) (f_R_speakers : Int32 → M Int32) (f_R_state : Int32 → M Int32) (f_R_street : Int32 → Int32 → M Int32) (f_R_swings : Int32 → Int32 → M Int32) (f_R_text : Int32 → M Int32) (f_R_undo : M Int32) (f_R_vote : Int32 → M Int32) (f_R_who : Int32 → Int32 → M Int32) : List (Nat × Nat × CSem) := [(25, 4, W_A_act f_A_act), (19, 4, W_A_alias f_A_alias), (163, 3, W_A_bed f_A_bed), (164, 2, W_A_beds f_A_beds), (154, 4, W_A_birthdays f_A_birthdays), (116, 3, W_A_book f_A_book), (162, 2, W_A_boot f_A_boot), (170, 2, W_A_box f_A_box), (65, 2, W_A_end f_A_end), (110, 2, W_A_fault f_A_fault), (62, 6, W_A_feed f_A_feed), (181, 4, W_A_game f_A_game), (118, 3, W_A_goes f_A_goes), (176, 4, W_A_hoop f_A_hoop), (33, 2, W_A_hours f_A_hours), (185, 2, W_A_image f_A_image), (120, 2, W_A_keeps f_A_keeps), (151, 2, W_A_least f_A_least), (157, 3, W_A_letter f_A_letter), (177, 4, W_A_loan f_A_loan), (189, 2, W_A_look f_A_look), (171, 2, W_A_named f_A_named), (133, 2, W_A_names f_A_names), (174, 3, W_A_net f_A_net), (158, 2, W_A_notes f_A_notes), (111, 3, W_A_of f_A_of), (132, 4, W_A_pair f_A_pair), (16, 3, W_A_person f_A_person), (122, 3, W_A_persons f_A_persons), (142, 4, W_A_says f_A_says), (22, 4, W_A_set f_A_set), (178, 2, W_A_settled f_A_settled), (121, 3, W_A_sighted f_A_sighted), (143, 2, W_A_speakers f_A_speakers), (14, 2, W_A_state f_A_state), (113, 3, W_A_street f_A_street), (147, 3, W_A_swings f_A_swings), (66, 2, W_A_text f_A_text), (184, 1, W_A_undo f_A_undo), (146, 2, W_A_vote f_A_vote), (112, 3, W_A_who f_A_who), (270, 4, W_R_act f_R_act), (196, 4, W_R_alias f_R_alias), (308, 3, W_R_bed f_R_bed), (309, 2, W_R_beds f_R_beds), (303, 4, W_R_birthdays f_R_birthdays), (276, 3, W_R_book f_R_book), (307, 2, W_R_boot f_R_boot), (313, 2, W_R_box f_R_box), (204, 2, W_R_end f_R_end), (241, 2, W_R_fault f_R_fault), (202, 6, W_R_feed f_R_feed), (322, 4, W_R_game f_R_game), (277, 3, W_R_goes f_R_goes), (318, 4, W_R_hoop f_R_hoop), (242, 2, W_R_hours f_R_hours), (325, 2, W_R_image f_R_image), (280, 2, W_R_keeps f_R_keeps), (300, 2, W_R_least f_R_least), (305, 3, W_R_letter f_R_letter), (319, 4, W_R_loan f_R_loan), (330, 2, W_R_look f_R_look), (314, 2, W_R_named f_R_named), (288, 2, W_R_names f_R_names), (316, 3, W_R_net f_R_net), (306, 2, W_R_notes f_R_notes), (272, 3, W_R_of f_R_of), (287, 4, W_R_pair f_R_pair), (194, 3, W_R_person f_R_person), (282, 3, W_R_persons f_R_persons), (293, 4, W_R_says f_R_says), (199, 4, W_R_set f_R_set), (320, 2, W_R_settled f_R_settled), (281, 3, W_R_sighted f_R_sighted), (294, 2, W_R_speakers f_R_speakers), (193, 2, W_R_state f_R_state), (275, 3, W_R_street f_R_street), (298, 3, W_R_swings f_R_swings), (205, 2, W_R_text f_R_text), (192, 1, W_R_undo f_R_undo), (297, 2, W_R_vote f_R_vote), (273, 3, W_R_who f_R_who)]
def K_L_law_1533 (L : Nat) (X : Nat → Int32) (x3 : Int32) : M ((Int32) ⊕ (Int32)) :=
  rt (.inl (x3 + (6 : Int32)))
set_option maxRecDepth 4000 in
theorem e_s_L_law_1533 (f_A_act : Int32 → Int32 → Int32 → M Int32) (f_A_alias : Int32 → Int32 → Int32 → M Int32) (f_A_bed : Int32 → Int32 → M Int32) (f_A_beds : Int32 → M Int32) (f_A_birthdays : Int32 → Int32 → Int32 → M Int32) (f_A_book : Int32 → Int32 → M Int32) (f_A_boot : Int32 → M Int32) (f_A_box : Int32 → M Int32) (f_A_end : Int32 → M Int32) (f_A_fault : Int32 → M Int32) (f_A_feed : Int32 → Int32 → Int32 → Int32 → Int32 → M Int32) (f_A_game : Int32 → Int32 → Int32 → M Int32) (f_A_goes : Int32 → Int32 → M Int32) (f_A_hoop : Int32 → Int32 → Int32 → M Int32) (f_A_hours : Int32 → M Int32) (f_A_image : Int32 → M Int32) (f_A_keeps : Int32 → M Int32) (f_A_least : Int32 → M Int32) (f_A_letter : Int32 → Int32 → M Int32) (f_A_loan : Int32 → Int32 → Int32 → M Int32) (f_A_look : Int32 → M Int32) (f_A_named : Int32 → M Int32) (f_A_names : Int32 → M Int32) (f_A_net : Int32 → Int32 → M Int32) (f_A_notes : Int32 → M Int32) (f_A_of : Int32 → Int32 → M Int32) (f_A_pair : Int32 → Int32 → Int32 → M Int32) (f_A_person : Int32 → Int32 → M Int32) (f_A_persons : Int32 → Int32 → M Int32) (f_A_says : Int32 → Int32 → Int32 → M Int32) (f_A_set : Int32 → Int32 → Int32 → M Int32) (f_A_settled : Int32 → M Int32) (f_A_sighted : Int32 → Int32 → M Int32) (f_A_speakers : Int32 → M Int32) (f_A_state : Int32 → M Int32) (f_A_street : Int32 → Int32 → M Int32) (f_A_swings : Int32 → Int32 → M Int32) (f_A_text : Int32 → M Int32) (f_A_undo : M Int32) (f_A_vote : Int32 → M Int32) (f_A_who : Int32 → Int32 → M Int32) (f_R_act : Int32 → Int32 → Int32 → M Int32) (f_R_alias : Int32 → Int32 → Int32 → M Int32) (f_R_bed : Int32 → Int32 → M Int32) (f_R_beds : Int32 → M Int32) (f_R_birthdays : Int32 → Int32 → Int32 → M Int32) (f_R_book : Int32 → Int32 → M Int32) (f_R_boot : Int32 → M Int32) (f_R_box : Int32 → M Int32) (f_R_end : Int32 → M Int32) (f_R_fault : Int32 → M Int32) (f_R_feed : Int32 → Int32 → Int32 → Int32 → Int32 → M Int32) (f_R_game : Int32 → Int32 → Int32 → M Int32) (f_R_goes : Int32 → Int32 → M Int32) (f_R_hoop : Int32 → Int32 → Int32 → M Int32) (f_R_hours : Int32 → M Int32) (f_R_image : Int32 → M Int32) (f_R_keeps : Int32 → M Int32) (f_R_least : Int32 → M Int32) (f_R_letter : Int32 → Int32 → M Int32) (f_R_loan : Int32 → Int32 → Int32 → M Int32) (f_R_look : Int32 → M Int32) (f_R_named : Int32 → M Int32) (f_R_names : Int32 → M Int32) (f_R_net : Int32 → Int32 → M Int32) (f_R_notes : Int32 → M Int32) (f_R_of : Int32 → Int32 → M Int32) (f_R_pair : Int32 → Int32 → Int32 → M Int32) (f_R_person : Int32 → Int32 → M Int32) (f_R_persons : Int32 → Int32 → M Int32) (f_R_says : Int32 → Int32 → Int32 → M Int32) (f_R_set : Int32 → Int32 → Int32 → M Int32) (f_R_settled : Int32 → M Int32) (f_R_sighted : Int32 → Int32 → M Int32) (f_R_speakers : Int32 → M Int32) (f_R_state : Int32 → M Int32) (f_R_street : Int32 → Int32 → M Int32) (f_R_swings : Int32 → Int32 → M Int32) (f_R_text : Int32 → M Int32) (f_R_undo : M Int32) (f_R_vote : Int32 → M Int32) (f_R_who : Int32 → Int32 → M Int32) (x3 : Int32) : wf (β := (Int32) ⊕ (Int32)) L X q_L_law 2 (cs_L_law f_A_act f_A_alias f_A_bed f_A_beds f_A_birthdays f_A_book f_A_boot f_A_box f_A_end f_A_fault f_A_feed f_A_game f_A_goes f_A_hoop f_A_hours f_A_image f_A_keeps f_A_least f_A_letter f_A_loan f_A_look f_A_named f_A_names f_A_net f_A_notes f_A_of f_A_pair f_A_person f_A_persons f_A_says f_A_set f_A_settled f_A_sighted f_A_speakers f_A_state f_A_street f_A_swings f_A_text f_A_undo f_A_vote f_A_who f_R_act f_R_alias f_R_bed f_R_beds f_R_birthdays f_R_book f_R_boot f_R_box f_R_end f_R_fault f_R_feed f_R_game f_R_goes f_R_hoop f_R_hours f_R_image f_R_keeps f_R_least f_R_letter f_R_loan f_R_look f_R_named f_R_names f_R_net f_R_notes f_R_of f_R_pair f_R_person f_R_persons f_R_says f_R_set f_R_settled f_R_sighted f_R_speakers f_R_state f_R_street f_R_swings f_R_text f_R_undo f_R_vote f_R_who) [3] [18, 212, 235, 268, 311, 354, 397, 420, 483, 506, 529, 552, 585, 618, 651, 684, 717, 740, 773, 806, 865, 888, 947, 970, 993, 1026, 1049, 1092, 1125, 1148, 1171, 1204, 1227, 1250, 1273, 1306, 1349, 1392, 1415, 1458, 1471, 1510, 1533] (fun pc ls st => mC (Nat.beq pc 18) (mN st <| gI ls 3 fun a3 => rt (.inl a3)) (fl)) (fun v => match v with | some (_, .int x) => rt (.inr x) | _ => fl) 1072 1533 [(9997, .ref 1000000), (111, .ref 0), (112, .ref 207), (0, .int x3)] [] = (rt (.inl (x3 + (6 : Int32)))) := rfl
theorem s_L_law_1533 {d : Nat} (L : Nat) (X : Nat → Int32) (hcs : AllS L X d (cs_L_law F_A_act F_A_alias F_A_bed F_A_beds F_A_birthdays F_A_book F_A_boot F_A_box F_A_end F_A_fault F_A_feed F_A_game F_A_goes F_A_hoop F_A_hours F_A_image F_A_keeps F_A_least F_A_letter F_A_loan F_A_look F_A_named F_A_names F_A_net F_A_notes F_A_of F_A_pair F_A_person F_A_persons F_A_says F_A_set F_A_settled F_A_sighted F_A_speakers F_A_state F_A_street F_A_swings F_A_text F_A_undo F_A_vote F_A_who F_R_act F_R_alias F_R_bed F_R_beds F_R_birthdays F_R_book F_R_boot F_R_box F_R_end F_R_fault F_R_feed F_R_game F_R_goes F_R_hoop F_R_hours F_R_image F_R_keeps F_R_least F_R_letter F_R_loan F_R_look F_R_named F_R_names F_R_net F_R_notes F_R_of F_R_pair F_R_person F_R_persons F_R_says F_R_set F_R_settled F_R_sighted F_R_speakers F_R_state F_R_street F_R_swings F_R_text F_R_undo F_R_vote F_R_who)) (x3 : Int32) {o : Option Value × PH} {Q : ((Int32) ⊕ (Int32)) → MI → Prop} (qb : ∀ y I, Q (.inl y) I → At L X (d + 1) 331 18 [(9997, .ref 1000000), (111, .ref 0), (112, .ref 207), (0, .int y)] [] I o) (qr : ∀ v I, Q (.inr v) I → o = (some (.int v), HH I)) (I : MI) (r : (Int32) ⊕ (Int32)) (I1 : MI) (h : K_L_law_1533 L X x3 I = some (r, I1)) (hq : Q r I1) : At L X (d + 1) 331 1533 [(9997, .ref 1000000), (111, .ref 0), (112, .ref 207), (0, .int x3)] [] I o := by
  refine wf_ok z_L_law hcs ?_ ?_ _ _ _ _ _ ⟨rfl, rfl, rfl, trivial, trivial⟩ trivial (unm_refl _ _) ((congrFun (e_s_L_law_1533 (L := L) (X := X) F_A_act F_A_alias F_A_bed F_A_beds F_A_birthdays F_A_book F_A_boot F_A_box F_A_end F_A_fault F_A_feed F_A_game F_A_goes F_A_hoop F_A_hours F_A_image F_A_keeps F_A_least F_A_letter F_A_loan F_A_look F_A_named F_A_names F_A_net F_A_notes F_A_of F_A_pair F_A_person F_A_persons F_A_says F_A_set F_A_settled F_A_sighted F_A_speakers F_A_state F_A_street F_A_swings F_A_text F_A_undo F_A_vote F_A_who F_R_act F_R_alias F_R_bed F_R_beds F_R_birthdays F_R_book F_R_boot F_R_box F_R_end F_R_fault F_R_feed F_R_game F_R_goes F_R_hoop F_R_hours F_R_image F_R_keeps F_R_least F_R_letter F_R_loan F_R_look F_R_named F_R_names F_R_net F_R_notes F_R_of F_R_pair F_R_person F_R_persons F_R_says F_R_set F_R_settled F_R_sighted F_R_speakers F_R_state F_R_street F_R_swings F_R_text F_R_undo F_R_vote F_R_who x3) I).trans h)
  · intro pc ls st I2 h1 h2 h3 h
    rcases mC_ok h with ⟨hb, h⟩ | ⟨_, h⟩
    · have e := Nat.eq_of_beq_eq_true hb
      subst e
      obtain ⟨hst, h⟩ := mN_ok h
      subst hst
      obtain ⟨a3, n3, h⟩ := gI_ok h
      refine at_leaf (ls2 := [(9997, .ref 1000000), (111, .ref 0), (112, .ref 207), (0, .int a3)]) h3.1 ⟨Or.inr ⟨_, (h3.2 0 rfl).trans rfl⟩, Or.inr ⟨_, (h3.2 1 rfl).trans rfl⟩, Or.inr ⟨_, (h3.2 2 rfl).trans rfl⟩, Or.inr n3, trivial⟩ ?_
      cases h; exact qb _ _ hq
    cases h
  · intro v I2 _ h
    split at h
    · cases h; exact qr _ _ hq
    · cases h
def K_L_law_212 (L : Nat) (X : Nat → Int32) (x3 : Int32) : M ((Int32) ⊕ (Int32)) :=
  bn (gd (inR (x3 + (1 : Int32)) L)) fun _ =>
  bn (F_A_state (X ((x3 + (1 : Int32))).toNatClampNeg)) fun v1 =>
  bn (gd (inR (x3 + (1 : Int32)) L)) fun _ =>
  bn (F_R_state (X ((x3 + (1 : Int32))).toNatClampNeg)) fun v2 =>
  (if v1 = v2 then
    K_L_law_1533 L X x3
  else
    bn (gdZ (0 : Int32)) fun _ => rt (.inr (0 : Int32)))
set_option maxRecDepth 4000 in
theorem e_s_L_law_212 (f_A_act : Int32 → Int32 → Int32 → M Int32) (f_A_alias : Int32 → Int32 → Int32 → M Int32) (f_A_bed : Int32 → Int32 → M Int32) (f_A_beds : Int32 → M Int32) (f_A_birthdays : Int32 → Int32 → Int32 → M Int32) (f_A_book : Int32 → Int32 → M Int32) (f_A_boot : Int32 → M Int32) (f_A_box : Int32 → M Int32) (f_A_end : Int32 → M Int32) (f_A_fault : Int32 → M Int32) (f_A_feed : Int32 → Int32 → Int32 → Int32 → Int32 → M Int32) (f_A_game : Int32 → Int32 → Int32 → M Int32) (f_A_goes : Int32 → Int32 → M Int32) (f_A_hoop : Int32 → Int32 → Int32 → M Int32) (f_A_hours : Int32 → M Int32) (f_A_image : Int32 → M Int32) (f_A_keeps : Int32 → M Int32) (f_A_least : Int32 → M Int32) (f_A_letter : Int32 → Int32 → M Int32) (f_A_loan : Int32 → Int32 → Int32 → M Int32) (f_A_look : Int32 → M Int32) (f_A_named : Int32 → M Int32) (f_A_names : Int32 → M Int32) (f_A_net : Int32 → Int32 → M Int32) (f_A_notes : Int32 → M Int32) (f_A_of : Int32 → Int32 → M Int32) (f_A_pair : Int32 → Int32 → Int32 → M Int32) (f_A_person : Int32 → Int32 → M Int32) (f_A_persons : Int32 → Int32 → M Int32) (f_A_says : Int32 → Int32 → Int32 → M Int32) (f_A_set : Int32 → Int32 → Int32 → M Int32) (f_A_settled : Int32 → M Int32) (f_A_sighted : Int32 → Int32 → M Int32) (f_A_speakers : Int32 → M Int32) (f_A_state : Int32 → M Int32) (f_A_street : Int32 → Int32 → M Int32) (f_A_swings : Int32 → Int32 → M Int32) (f_A_text : Int32 → M Int32) (f_A_undo : M Int32) (f_A_vote : Int32 → M Int32) (f_A_who : Int32 → Int32 → M Int32) (f_R_act : Int32 → Int32 → Int32 → M Int32) (f_R_alias : Int32 → Int32 → Int32 → M Int32) (f_R_bed : Int32 → Int32 → M Int32) (f_R_beds : Int32 → M Int32) (f_R_birthdays : Int32 → Int32 → Int32 → M Int32) (f_R_book : Int32 → Int32 → M Int32) (f_R_boot : Int32 → M Int32) (f_R_box : Int32 → M Int32) (f_R_end : Int32 → M Int32) (f_R_fault : Int32 → M Int32) (f_R_feed : Int32 → Int32 → Int32 → Int32 → Int32 → M Int32) (f_R_game : Int32 → Int32 → Int32 → M Int32) (f_R_goes : Int32 → Int32 → M Int32) (f_R_hoop : Int32 → Int32 → Int32 → M Int32) (f_R_hours : Int32 → M Int32) (f_R_image : Int32 → M Int32) (f_R_keeps : Int32 → M Int32) (f_R_least : Int32 → M Int32) (f_R_letter : Int32 → Int32 → M Int32) (f_R_loan : Int32 → Int32 → Int32 → M Int32) (f_R_look : Int32 → M Int32) (f_R_named : Int32 → M Int32) (f_R_names : Int32 → M Int32) (f_R_net : Int32 → Int32 → M Int32) (f_R_notes : Int32 → M Int32) (f_R_of : Int32 → Int32 → M Int32) (f_R_pair : Int32 → Int32 → Int32 → M Int32) (f_R_person : Int32 → Int32 → M Int32) (f_R_persons : Int32 → Int32 → M Int32) (f_R_says : Int32 → Int32 → Int32 → M Int32) (f_R_set : Int32 → Int32 → Int32 → M Int32) (f_R_settled : Int32 → M Int32) (f_R_sighted : Int32 → Int32 → M Int32) (f_R_speakers : Int32 → M Int32) (f_R_state : Int32 → M Int32) (f_R_street : Int32 → Int32 → M Int32) (f_R_swings : Int32 → Int32 → M Int32) (f_R_text : Int32 → M Int32) (f_R_undo : M Int32) (f_R_vote : Int32 → M Int32) (f_R_who : Int32 → Int32 → M Int32) (k_1533 : Int32 → M ((Int32) ⊕ (Int32))) (x3 : Int32) : wf (β := (Int32) ⊕ (Int32)) L X q_L_law 2 (cs_L_law f_A_act f_A_alias f_A_bed f_A_beds f_A_birthdays f_A_book f_A_boot f_A_box f_A_end f_A_fault f_A_feed f_A_game f_A_goes f_A_hoop f_A_hours f_A_image f_A_keeps f_A_least f_A_letter f_A_loan f_A_look f_A_named f_A_names f_A_net f_A_notes f_A_of f_A_pair f_A_person f_A_persons f_A_says f_A_set f_A_settled f_A_sighted f_A_speakers f_A_state f_A_street f_A_swings f_A_text f_A_undo f_A_vote f_A_who f_R_act f_R_alias f_R_bed f_R_beds f_R_birthdays f_R_book f_R_boot f_R_box f_R_end f_R_fault f_R_feed f_R_game f_R_goes f_R_hoop f_R_hours f_R_image f_R_keeps f_R_least f_R_letter f_R_loan f_R_look f_R_named f_R_names f_R_net f_R_notes f_R_of f_R_pair f_R_person f_R_persons f_R_says f_R_set f_R_settled f_R_sighted f_R_speakers f_R_state f_R_street f_R_swings f_R_text f_R_undo f_R_vote f_R_who) [] [18, 212, 235, 268, 311, 354, 397, 420, 483, 506, 529, 552, 585, 618, 651, 684, 717, 740, 773, 806, 865, 888, 947, 970, 993, 1026, 1049, 1092, 1125, 1148, 1171, 1204, 1227, 1250, 1273, 1306, 1349, 1392, 1415, 1458, 1471, 1510, 1533] (fun pc ls st => mC (Nat.beq pc 1533) (mN st <| k_1533 x3) (fl)) (fun v => match v with | some (_, .int x) => rt (.inr x) | _ => fl) 1072 212 [(9997, .ref 1000000), (111, .ref 0), (112, .ref 207), (0, .int x3)] [] = (bn (gd (inR (x3 + (1 : Int32)) L)) fun _ =>
  bn (f_A_state (X ((x3 + (1 : Int32))).toNatClampNeg)) fun v1 =>
  bn (gd (inR (x3 + (1 : Int32)) L)) fun _ =>
  bn (f_R_state (X ((x3 + (1 : Int32))).toNatClampNeg)) fun v2 =>
  (if v1 = v2 then
    k_1533 x3
  else
    bn (gdZ (0 : Int32)) fun _ => rt (.inr (0 : Int32)))) := rfl
theorem s_L_law_212 {d : Nat} (L : Nat) (X : Nat → Int32) (hcs : AllS L X d (cs_L_law F_A_act F_A_alias F_A_bed F_A_beds F_A_birthdays F_A_book F_A_boot F_A_box F_A_end F_A_fault F_A_feed F_A_game F_A_goes F_A_hoop F_A_hours F_A_image F_A_keeps F_A_least F_A_letter F_A_loan F_A_look F_A_named F_A_names F_A_net F_A_notes F_A_of F_A_pair F_A_person F_A_persons F_A_says F_A_set F_A_settled F_A_sighted F_A_speakers F_A_state F_A_street F_A_swings F_A_text F_A_undo F_A_vote F_A_who F_R_act F_R_alias F_R_bed F_R_beds F_R_birthdays F_R_book F_R_boot F_R_box F_R_end F_R_fault F_R_feed F_R_game F_R_goes F_R_hoop F_R_hours F_R_image F_R_keeps F_R_least F_R_letter F_R_loan F_R_look F_R_named F_R_names F_R_net F_R_notes F_R_of F_R_pair F_R_person F_R_persons F_R_says F_R_set F_R_settled F_R_sighted F_R_speakers F_R_state F_R_street F_R_swings F_R_text F_R_undo F_R_vote F_R_who)) (x3 : Int32) {o : Option Value × PH} {Q : ((Int32) ⊕ (Int32)) → MI → Prop} (qb : ∀ y I, Q (.inl y) I → At L X (d + 1) 331 18 [(9997, .ref 1000000), (111, .ref 0), (112, .ref 207), (0, .int y)] [] I o) (qr : ∀ v I, Q (.inr v) I → o = (some (.int v), HH I)) (I : MI) (r : (Int32) ⊕ (Int32)) (I1 : MI) (h : K_L_law_212 L X x3 I = some (r, I1)) (hq : Q r I1) : At L X (d + 1) 331 212 [(9997, .ref 1000000), (111, .ref 0), (112, .ref 207), (0, .int x3)] [] I o := by
  refine wf_ok z_L_law hcs ?_ ?_ _ _ _ _ _ ⟨rfl, rfl, rfl, trivial, trivial⟩ trivial (unm_refl _ _) ((congrFun (e_s_L_law_212 (L := L) (X := X) F_A_act F_A_alias F_A_bed F_A_beds F_A_birthdays F_A_book F_A_boot F_A_box F_A_end F_A_fault F_A_feed F_A_game F_A_goes F_A_hoop F_A_hours F_A_image F_A_keeps F_A_least F_A_letter F_A_loan F_A_look F_A_named F_A_names F_A_net F_A_notes F_A_of F_A_pair F_A_person F_A_persons F_A_says F_A_set F_A_settled F_A_sighted F_A_speakers F_A_state F_A_street F_A_swings F_A_text F_A_undo F_A_vote F_A_who F_R_act F_R_alias F_R_bed F_R_beds F_R_birthdays F_R_book F_R_boot F_R_box F_R_end F_R_fault F_R_feed F_R_game F_R_goes F_R_hoop F_R_hours F_R_image F_R_keeps F_R_least F_R_letter F_R_loan F_R_look F_R_named F_R_names F_R_net F_R_notes F_R_of F_R_pair F_R_person F_R_persons F_R_says F_R_set F_R_settled F_R_sighted F_R_speakers F_R_state F_R_street F_R_swings F_R_text F_R_undo F_R_vote F_R_who (K_L_law_1533 L X) x3) I).trans h)
  · intro pc ls st I2 h1 h2 h3 h
    rcases mC_ok h with ⟨hb, h⟩ | ⟨_, h⟩
    · have e := Nat.eq_of_beq_eq_true hb
      subst e
      obtain ⟨hst, h⟩ := mN_ok h
      subst hst
      refine at_leaf (ls2 := [(9997, .ref 1000000), (111, .ref 0), (112, .ref 207), (0, .int x3)]) h3.1 ⟨Or.inr ⟨_, (h3.2 0 rfl).trans rfl⟩, Or.inr ⟨_, (h3.2 1 rfl).trans rfl⟩, Or.inr ⟨_, (h3.2 2 rfl).trans rfl⟩, Or.inr ⟨_, (h3.2 3 rfl).trans rfl⟩, trivial⟩ ?_
      exact s_L_law_1533 L X hcs x3 qb qr _ _ _ h hq
    cases h
  · intro v I2 _ h
    split at h
    · cases h; exact qr _ _ hq
    · cases h
def K_L_law_235 (L : Nat) (X : Nat → Int32) (x3 : Int32) : M ((Int32) ⊕ (Int32)) :=
  bn (gd (inR (x3 + (1 : Int32)) L)) fun _ =>
  bn (gd (inR (x3 + (2 : Int32)) L)) fun _ =>
  bn (F_A_person (X ((x3 + (1 : Int32))).toNatClampNeg) (X ((x3 + (2 : Int32))).toNatClampNeg)) fun v1 =>
  bn (gd (inR (x3 + (1 : Int32)) L)) fun _ =>
  bn (gd (inR (x3 + (2 : Int32)) L)) fun _ =>
  bn (F_R_person (X ((x3 + (1 : Int32))).toNatClampNeg) (X ((x3 + (2 : Int32))).toNatClampNeg)) fun v2 =>
  (if v1 = v2 then
    K_L_law_1533 L X x3
  else
    bn (gdZ (0 : Int32)) fun _ => rt (.inr (0 : Int32)))
set_option maxRecDepth 4000 in
theorem e_s_L_law_235 (f_A_act : Int32 → Int32 → Int32 → M Int32) (f_A_alias : Int32 → Int32 → Int32 → M Int32) (f_A_bed : Int32 → Int32 → M Int32) (f_A_beds : Int32 → M Int32) (f_A_birthdays : Int32 → Int32 → Int32 → M Int32) (f_A_book : Int32 → Int32 → M Int32) (f_A_boot : Int32 → M Int32) (f_A_box : Int32 → M Int32) (f_A_end : Int32 → M Int32) (f_A_fault : Int32 → M Int32) (f_A_feed : Int32 → Int32 → Int32 → Int32 → Int32 → M Int32) (f_A_game : Int32 → Int32 → Int32 → M Int32) (f_A_goes : Int32 → Int32 → M Int32) (f_A_hoop : Int32 → Int32 → Int32 → M Int32) (f_A_hours : Int32 → M Int32) (f_A_image : Int32 → M Int32) (f_A_keeps : Int32 → M Int32) (f_A_least : Int32 → M Int32) (f_A_letter : Int32 → Int32 → M Int32) (f_A_loan : Int32 → Int32 → Int32 → M Int32) (f_A_look : Int32 → M Int32) (f_A_named : Int32 → M Int32) (f_A_names : Int32 → M Int32) (f_A_net : Int32 → Int32 → M Int32) (f_A_notes : Int32 → M Int32) (f_A_of : Int32 → Int32 → M Int32) (f_A_pair : Int32 → Int32 → Int32 → M Int32) (f_A_person : Int32 → Int32 → M Int32) (f_A_persons : Int32 → Int32 → M Int32) (f_A_says : Int32 → Int32 → Int32 → M Int32) (f_A_set : Int32 → Int32 → Int32 → M Int32) (f_A_settled : Int32 → M Int32) (f_A_sighted : Int32 → Int32 → M Int32) (f_A_speakers : Int32 → M Int32) (f_A_state : Int32 → M Int32) (f_A_street : Int32 → Int32 → M Int32) (f_A_swings : Int32 → Int32 → M Int32) (f_A_text : Int32 → M Int32) (f_A_undo : M Int32) (f_A_vote : Int32 → M Int32) (f_A_who : Int32 → Int32 → M Int32) (f_R_act : Int32 → Int32 → Int32 → M Int32) (f_R_alias : Int32 → Int32 → Int32 → M Int32) (f_R_bed : Int32 → Int32 → M Int32) (f_R_beds : Int32 → M Int32) (f_R_birthdays : Int32 → Int32 → Int32 → M Int32) (f_R_book : Int32 → Int32 → M Int32) (f_R_boot : Int32 → M Int32) (f_R_box : Int32 → M Int32) (f_R_end : Int32 → M Int32) (f_R_fault : Int32 → M Int32) (f_R_feed : Int32 → Int32 → Int32 → Int32 → Int32 → M Int32) (f_R_game : Int32 → Int32 → Int32 → M Int32) (f_R_goes : Int32 → Int32 → M Int32) (f_R_hoop : Int32 → Int32 → Int32 → M Int32) (f_R_hours : Int32 → M Int32) (f_R_image : Int32 → M Int32) (f_R_keeps : Int32 → M Int32) (f_R_least : Int32 → M Int32) (f_R_letter : Int32 → Int32 → M Int32) (f_R_loan : Int32 → Int32 → Int32 → M Int32) (f_R_look : Int32 → M Int32) (f_R_named : Int32 → M Int32) (f_R_names : Int32 → M Int32) (f_R_net : Int32 → Int32 → M Int32) (f_R_notes : Int32 → M Int32) (f_R_of : Int32 → Int32 → M Int32) (f_R_pair : Int32 → Int32 → Int32 → M Int32) (f_R_person : Int32 → Int32 → M Int32) (f_R_persons : Int32 → Int32 → M Int32) (f_R_says : Int32 → Int32 → Int32 → M Int32) (f_R_set : Int32 → Int32 → Int32 → M Int32) (f_R_settled : Int32 → M Int32) (f_R_sighted : Int32 → Int32 → M Int32) (f_R_speakers : Int32 → M Int32) (f_R_state : Int32 → M Int32) (f_R_street : Int32 → Int32 → M Int32) (f_R_swings : Int32 → Int32 → M Int32) (f_R_text : Int32 → M Int32) (f_R_undo : M Int32) (f_R_vote : Int32 → M Int32) (f_R_who : Int32 → Int32 → M Int32) (k_1533 : Int32 → M ((Int32) ⊕ (Int32))) (x3 : Int32) : wf (β := (Int32) ⊕ (Int32)) L X q_L_law 2 (cs_L_law f_A_act f_A_alias f_A_bed f_A_beds f_A_birthdays f_A_book f_A_boot f_A_box f_A_end f_A_fault f_A_feed f_A_game f_A_goes f_A_hoop f_A_hours f_A_image f_A_keeps f_A_least f_A_letter f_A_loan f_A_look f_A_named f_A_names f_A_net f_A_notes f_A_of f_A_pair f_A_person f_A_persons f_A_says f_A_set f_A_settled f_A_sighted f_A_speakers f_A_state f_A_street f_A_swings f_A_text f_A_undo f_A_vote f_A_who f_R_act f_R_alias f_R_bed f_R_beds f_R_birthdays f_R_book f_R_boot f_R_box f_R_end f_R_fault f_R_feed f_R_game f_R_goes f_R_hoop f_R_hours f_R_image f_R_keeps f_R_least f_R_letter f_R_loan f_R_look f_R_named f_R_names f_R_net f_R_notes f_R_of f_R_pair f_R_person f_R_persons f_R_says f_R_set f_R_settled f_R_sighted f_R_speakers f_R_state f_R_street f_R_swings f_R_text f_R_undo f_R_vote f_R_who) [] [18, 212, 235, 268, 311, 354, 397, 420, 483, 506, 529, 552, 585, 618, 651, 684, 717, 740, 773, 806, 865, 888, 947, 970, 993, 1026, 1049, 1092, 1125, 1148, 1171, 1204, 1227, 1250, 1273, 1306, 1349, 1392, 1415, 1458, 1471, 1510, 1533] (fun pc ls st => mC (Nat.beq pc 1533) (mN st <| k_1533 x3) (fl)) (fun v => match v with | some (_, .int x) => rt (.inr x) | _ => fl) 1072 235 [(9997, .ref 1000000), (111, .ref 0), (112, .ref 207), (0, .int x3)] [] = (bn (gd (inR (x3 + (1 : Int32)) L)) fun _ =>
  bn (gd (inR (x3 + (2 : Int32)) L)) fun _ =>
  bn (f_A_person (X ((x3 + (1 : Int32))).toNatClampNeg) (X ((x3 + (2 : Int32))).toNatClampNeg)) fun v1 =>
  bn (gd (inR (x3 + (1 : Int32)) L)) fun _ =>
  bn (gd (inR (x3 + (2 : Int32)) L)) fun _ =>
  bn (f_R_person (X ((x3 + (1 : Int32))).toNatClampNeg) (X ((x3 + (2 : Int32))).toNatClampNeg)) fun v2 =>
  (if v1 = v2 then
    k_1533 x3
  else
    bn (gdZ (0 : Int32)) fun _ => rt (.inr (0 : Int32)))) := rfl
theorem s_L_law_235 {d : Nat} (L : Nat) (X : Nat → Int32) (hcs : AllS L X d (cs_L_law F_A_act F_A_alias F_A_bed F_A_beds F_A_birthdays F_A_book F_A_boot F_A_box F_A_end F_A_fault F_A_feed F_A_game F_A_goes F_A_hoop F_A_hours F_A_image F_A_keeps F_A_least F_A_letter F_A_loan F_A_look F_A_named F_A_names F_A_net F_A_notes F_A_of F_A_pair F_A_person F_A_persons F_A_says F_A_set F_A_settled F_A_sighted F_A_speakers F_A_state F_A_street F_A_swings F_A_text F_A_undo F_A_vote F_A_who F_R_act F_R_alias F_R_bed F_R_beds F_R_birthdays F_R_book F_R_boot F_R_box F_R_end F_R_fault F_R_feed F_R_game F_R_goes F_R_hoop F_R_hours F_R_image F_R_keeps F_R_least F_R_letter F_R_loan F_R_look F_R_named F_R_names F_R_net F_R_notes F_R_of F_R_pair F_R_person F_R_persons F_R_says F_R_set F_R_settled F_R_sighted F_R_speakers F_R_state F_R_street F_R_swings F_R_text F_R_undo F_R_vote F_R_who)) (x3 : Int32) {o : Option Value × PH} {Q : ((Int32) ⊕ (Int32)) → MI → Prop} (qb : ∀ y I, Q (.inl y) I → At L X (d + 1) 331 18 [(9997, .ref 1000000), (111, .ref 0), (112, .ref 207), (0, .int y)] [] I o) (qr : ∀ v I, Q (.inr v) I → o = (some (.int v), HH I)) (I : MI) (r : (Int32) ⊕ (Int32)) (I1 : MI) (h : K_L_law_235 L X x3 I = some (r, I1)) (hq : Q r I1) : At L X (d + 1) 331 235 [(9997, .ref 1000000), (111, .ref 0), (112, .ref 207), (0, .int x3)] [] I o := by
  refine wf_ok z_L_law hcs ?_ ?_ _ _ _ _ _ ⟨rfl, rfl, rfl, trivial, trivial⟩ trivial (unm_refl _ _) ((congrFun (e_s_L_law_235 (L := L) (X := X) F_A_act F_A_alias F_A_bed F_A_beds F_A_birthdays F_A_book F_A_boot F_A_box F_A_end F_A_fault F_A_feed F_A_game F_A_goes F_A_hoop F_A_hours F_A_image F_A_keeps F_A_least F_A_letter F_A_loan F_A_look F_A_named F_A_names F_A_net F_A_notes F_A_of F_A_pair F_A_person F_A_persons F_A_says F_A_set F_A_settled F_A_sighted F_A_speakers F_A_state F_A_street F_A_swings F_A_text F_A_undo F_A_vote F_A_who F_R_act F_R_alias F_R_bed F_R_beds F_R_birthdays F_R_book F_R_boot F_R_box F_R_end F_R_fault F_R_feed F_R_game F_R_goes F_R_hoop F_R_hours F_R_image F_R_keeps F_R_least F_R_letter F_R_loan F_R_look F_R_named F_R_names F_R_net F_R_notes F_R_of F_R_pair F_R_person F_R_persons F_R_says F_R_set F_R_settled F_R_sighted F_R_speakers F_R_state F_R_street F_R_swings F_R_text F_R_undo F_R_vote F_R_who (K_L_law_1533 L X) x3) I).trans h)
  · intro pc ls st I2 h1 h2 h3 h
    rcases mC_ok h with ⟨hb, h⟩ | ⟨_, h⟩
    · have e := Nat.eq_of_beq_eq_true hb
      subst e
      obtain ⟨hst, h⟩ := mN_ok h
      subst hst
      refine at_leaf (ls2 := [(9997, .ref 1000000), (111, .ref 0), (112, .ref 207), (0, .int x3)]) h3.1 ⟨Or.inr ⟨_, (h3.2 0 rfl).trans rfl⟩, Or.inr ⟨_, (h3.2 1 rfl).trans rfl⟩, Or.inr ⟨_, (h3.2 2 rfl).trans rfl⟩, Or.inr ⟨_, (h3.2 3 rfl).trans rfl⟩, trivial⟩ ?_
      exact s_L_law_1533 L X hcs x3 qb qr _ _ _ h hq
    cases h
  · intro v I2 _ h
    split at h
    · cases h; exact qr _ _ hq
    · cases h
def K_L_law_268 (L : Nat) (X : Nat → Int32) (x3 : Int32) : M ((Int32) ⊕ (Int32)) :=
  bn (gd (inR (x3 + (1 : Int32)) L)) fun _ =>
  bn (gd (inR (x3 + (2 : Int32)) L)) fun _ =>
  bn (gd (inR (x3 + (3 : Int32)) L)) fun _ =>
  bn (F_A_alias (X ((x3 + (1 : Int32))).toNatClampNeg) (X ((x3 + (2 : Int32))).toNatClampNeg) (X ((x3 + (3 : Int32))).toNatClampNeg)) fun v1 =>
  bn (gd (inR (x3 + (1 : Int32)) L)) fun _ =>
  bn (gd (inR (x3 + (2 : Int32)) L)) fun _ =>
  bn (gd (inR (x3 + (3 : Int32)) L)) fun _ =>
  bn (F_R_alias (X ((x3 + (1 : Int32))).toNatClampNeg) (X ((x3 + (2 : Int32))).toNatClampNeg) (X ((x3 + (3 : Int32))).toNatClampNeg)) fun v2 =>
  (if v1 = v2 then
    K_L_law_1533 L X x3
  else
    bn (gdZ (0 : Int32)) fun _ => rt (.inr (0 : Int32)))
set_option maxRecDepth 4000 in
theorem e_s_L_law_268 (f_A_act : Int32 → Int32 → Int32 → M Int32) (f_A_alias : Int32 → Int32 → Int32 → M Int32) (f_A_bed : Int32 → Int32 → M Int32) (f_A_beds : Int32 → M Int32) (f_A_birthdays : Int32 → Int32 → Int32 → M Int32) (f_A_book : Int32 → Int32 → M Int32) (f_A_boot : Int32 → M Int32) (f_A_box : Int32 → M Int32) (f_A_end : Int32 → M Int32) (f_A_fault : Int32 → M Int32) (f_A_feed : Int32 → Int32 → Int32 → Int32 → Int32 → M Int32) (f_A_game : Int32 → Int32 → Int32 → M Int32) (f_A_goes : Int32 → Int32 → M Int32) (f_A_hoop : Int32 → Int32 → Int32 → M Int32) (f_A_hours : Int32 → M Int32) (f_A_image : Int32 → M Int32) (f_A_keeps : Int32 → M Int32) (f_A_least : Int32 → M Int32) (f_A_letter : Int32 → Int32 → M Int32) (f_A_loan : Int32 → Int32 → Int32 → M Int32) (f_A_look : Int32 → M Int32) (f_A_named : Int32 → M Int32) (f_A_names : Int32 → M Int32) (f_A_net : Int32 → Int32 → M Int32) (f_A_notes : Int32 → M Int32) (f_A_of : Int32 → Int32 → M Int32) (f_A_pair : Int32 → Int32 → Int32 → M Int32) (f_A_person : Int32 → Int32 → M Int32) (f_A_persons : Int32 → Int32 → M Int32) (f_A_says : Int32 → Int32 → Int32 → M Int32) (f_A_set : Int32 → Int32 → Int32 → M Int32) (f_A_settled : Int32 → M Int32) (f_A_sighted : Int32 → Int32 → M Int32) (f_A_speakers : Int32 → M Int32) (f_A_state : Int32 → M Int32) (f_A_street : Int32 → Int32 → M Int32) (f_A_swings : Int32 → Int32 → M Int32) (f_A_text : Int32 → M Int32) (f_A_undo : M Int32) (f_A_vote : Int32 → M Int32) (f_A_who : Int32 → Int32 → M Int32) (f_R_act : Int32 → Int32 → Int32 → M Int32) (f_R_alias : Int32 → Int32 → Int32 → M Int32) (f_R_bed : Int32 → Int32 → M Int32) (f_R_beds : Int32 → M Int32) (f_R_birthdays : Int32 → Int32 → Int32 → M Int32) (f_R_book : Int32 → Int32 → M Int32) (f_R_boot : Int32 → M Int32) (f_R_box : Int32 → M Int32) (f_R_end : Int32 → M Int32) (f_R_fault : Int32 → M Int32) (f_R_feed : Int32 → Int32 → Int32 → Int32 → Int32 → M Int32) (f_R_game : Int32 → Int32 → Int32 → M Int32) (f_R_goes : Int32 → Int32 → M Int32) (f_R_hoop : Int32 → Int32 → Int32 → M Int32) (f_R_hours : Int32 → M Int32) (f_R_image : Int32 → M Int32) (f_R_keeps : Int32 → M Int32) (f_R_least : Int32 → M Int32) (f_R_letter : Int32 → Int32 → M Int32) (f_R_loan : Int32 → Int32 → Int32 → M Int32) (f_R_look : Int32 → M Int32) (f_R_named : Int32 → M Int32) (f_R_names : Int32 → M Int32) (f_R_net : Int32 → Int32 → M Int32) (f_R_notes : Int32 → M Int32) (f_R_of : Int32 → Int32 → M Int32) (f_R_pair : Int32 → Int32 → Int32 → M Int32) (f_R_person : Int32 → Int32 → M Int32) (f_R_persons : Int32 → Int32 → M Int32) (f_R_says : Int32 → Int32 → Int32 → M Int32) (f_R_set : Int32 → Int32 → Int32 → M Int32) (f_R_settled : Int32 → M Int32) (f_R_sighted : Int32 → Int32 → M Int32) (f_R_speakers : Int32 → M Int32) (f_R_state : Int32 → M Int32) (f_R_street : Int32 → Int32 → M Int32) (f_R_swings : Int32 → Int32 → M Int32) (f_R_text : Int32 → M Int32) (f_R_undo : M Int32) (f_R_vote : Int32 → M Int32) (f_R_who : Int32 → Int32 → M Int32) (k_1533 : Int32 → M ((Int32) ⊕ (Int32))) (x3 : Int32) : wf (β := (Int32) ⊕ (Int32)) L X q_L_law 2 (cs_L_law f_A_act f_A_alias f_A_bed f_A_beds f_A_birthdays f_A_book f_A_boot f_A_box f_A_end f_A_fault f_A_feed f_A_game f_A_goes f_A_hoop f_A_hours f_A_image f_A_keeps f_A_least f_A_letter f_A_loan f_A_look f_A_named f_A_names f_A_net f_A_notes f_A_of f_A_pair f_A_person f_A_persons f_A_says f_A_set f_A_settled f_A_sighted f_A_speakers f_A_state f_A_street f_A_swings f_A_text f_A_undo f_A_vote f_A_who f_R_act f_R_alias f_R_bed f_R_beds f_R_birthdays f_R_book f_R_boot f_R_box f_R_end f_R_fault f_R_feed f_R_game f_R_goes f_R_hoop f_R_hours f_R_image f_R_keeps f_R_least f_R_letter f_R_loan f_R_look f_R_named f_R_names f_R_net f_R_notes f_R_of f_R_pair f_R_person f_R_persons f_R_says f_R_set f_R_settled f_R_sighted f_R_speakers f_R_state f_R_street f_R_swings f_R_text f_R_undo f_R_vote f_R_who) [] [18, 212, 235, 268, 311, 354, 397, 420, 483, 506, 529, 552, 585, 618, 651, 684, 717, 740, 773, 806, 865, 888, 947, 970, 993, 1026, 1049, 1092, 1125, 1148, 1171, 1204, 1227, 1250, 1273, 1306, 1349, 1392, 1415, 1458, 1471, 1510, 1533] (fun pc ls st => mC (Nat.beq pc 1533) (mN st <| k_1533 x3) (fl)) (fun v => match v with | some (_, .int x) => rt (.inr x) | _ => fl) 1072 268 [(9997, .ref 1000000), (111, .ref 0), (112, .ref 207), (0, .int x3)] [] = (bn (gd (inR (x3 + (1 : Int32)) L)) fun _ =>
  bn (gd (inR (x3 + (2 : Int32)) L)) fun _ =>
  bn (gd (inR (x3 + (3 : Int32)) L)) fun _ =>
  bn (f_A_alias (X ((x3 + (1 : Int32))).toNatClampNeg) (X ((x3 + (2 : Int32))).toNatClampNeg) (X ((x3 + (3 : Int32))).toNatClampNeg)) fun v1 =>
  bn (gd (inR (x3 + (1 : Int32)) L)) fun _ =>
  bn (gd (inR (x3 + (2 : Int32)) L)) fun _ =>
  bn (gd (inR (x3 + (3 : Int32)) L)) fun _ =>
  bn (f_R_alias (X ((x3 + (1 : Int32))).toNatClampNeg) (X ((x3 + (2 : Int32))).toNatClampNeg) (X ((x3 + (3 : Int32))).toNatClampNeg)) fun v2 =>
  (if v1 = v2 then
    k_1533 x3
  else
    bn (gdZ (0 : Int32)) fun _ => rt (.inr (0 : Int32)))) := rfl
theorem s_L_law_268 {d : Nat} (L : Nat) (X : Nat → Int32) (hcs : AllS L X d (cs_L_law F_A_act F_A_alias F_A_bed F_A_beds F_A_birthdays F_A_book F_A_boot F_A_box F_A_end F_A_fault F_A_feed F_A_game F_A_goes F_A_hoop F_A_hours F_A_image F_A_keeps F_A_least F_A_letter F_A_loan F_A_look F_A_named F_A_names F_A_net F_A_notes F_A_of F_A_pair F_A_person F_A_persons F_A_says F_A_set F_A_settled F_A_sighted F_A_speakers F_A_state F_A_street F_A_swings F_A_text F_A_undo F_A_vote F_A_who F_R_act F_R_alias F_R_bed F_R_beds F_R_birthdays F_R_book F_R_boot F_R_box F_R_end F_R_fault F_R_feed F_R_game F_R_goes F_R_hoop F_R_hours F_R_image F_R_keeps F_R_least F_R_letter F_R_loan F_R_look F_R_named F_R_names F_R_net F_R_notes F_R_of F_R_pair F_R_person F_R_persons F_R_says F_R_set F_R_settled F_R_sighted F_R_speakers F_R_state F_R_street F_R_swings F_R_text F_R_undo F_R_vote F_R_who)) (x3 : Int32) {o : Option Value × PH} {Q : ((Int32) ⊕ (Int32)) → MI → Prop} (qb : ∀ y I, Q (.inl y) I → At L X (d + 1) 331 18 [(9997, .ref 1000000), (111, .ref 0), (112, .ref 207), (0, .int y)] [] I o) (qr : ∀ v I, Q (.inr v) I → o = (some (.int v), HH I)) (I : MI) (r : (Int32) ⊕ (Int32)) (I1 : MI) (h : K_L_law_268 L X x3 I = some (r, I1)) (hq : Q r I1) : At L X (d + 1) 331 268 [(9997, .ref 1000000), (111, .ref 0), (112, .ref 207), (0, .int x3)] [] I o := by
  refine wf_ok z_L_law hcs ?_ ?_ _ _ _ _ _ ⟨rfl, rfl, rfl, trivial, trivial⟩ trivial (unm_refl _ _) ((congrFun (e_s_L_law_268 (L := L) (X := X) F_A_act F_A_alias F_A_bed F_A_beds F_A_birthdays F_A_book F_A_boot F_A_box F_A_end F_A_fault F_A_feed F_A_game F_A_goes F_A_hoop F_A_hours F_A_image F_A_keeps F_A_least F_A_letter F_A_loan F_A_look F_A_named F_A_names F_A_net F_A_notes F_A_of F_A_pair F_A_person F_A_persons F_A_says F_A_set F_A_settled F_A_sighted F_A_speakers F_A_state F_A_street F_A_swings F_A_text F_A_undo F_A_vote F_A_who F_R_act F_R_alias F_R_bed F_R_beds F_R_birthdays F_R_book F_R_boot F_R_box F_R_end F_R_fault F_R_feed F_R_game F_R_goes F_R_hoop F_R_hours F_R_image F_R_keeps F_R_least F_R_letter F_R_loan F_R_look F_R_named F_R_names F_R_net F_R_notes F_R_of F_R_pair F_R_person F_R_persons F_R_says F_R_set F_R_settled F_R_sighted F_R_speakers F_R_state F_R_street F_R_swings F_R_text F_R_undo F_R_vote F_R_who (K_L_law_1533 L X) x3) I).trans h)
  · intro pc ls st I2 h1 h2 h3 h
    rcases mC_ok h with ⟨hb, h⟩ | ⟨_, h⟩
    · have e := Nat.eq_of_beq_eq_true hb
      subst e
      obtain ⟨hst, h⟩ := mN_ok h
      subst hst
      refine at_leaf (ls2 := [(9997, .ref 1000000), (111, .ref 0), (112, .ref 207), (0, .int x3)]) h3.1 ⟨Or.inr ⟨_, (h3.2 0 rfl).trans rfl⟩, Or.inr ⟨_, (h3.2 1 rfl).trans rfl⟩, Or.inr ⟨_, (h3.2 2 rfl).trans rfl⟩, Or.inr ⟨_, (h3.2 3 rfl).trans rfl⟩, trivial⟩ ?_
      exact s_L_law_1533 L X hcs x3 qb qr _ _ _ h hq
    cases h
  · intro v I2 _ h
    split at h
    · cases h; exact qr _ _ hq
    · cases h
def K_L_law_311 (L : Nat) (X : Nat → Int32) (x3 : Int32) : M ((Int32) ⊕ (Int32)) :=
  bn (gd (inR (x3 + (1 : Int32)) L)) fun _ =>
  bn (gd (inR (x3 + (2 : Int32)) L)) fun _ =>
  bn (gd (inR (x3 + (3 : Int32)) L)) fun _ =>
  bn (F_A_set (X ((x3 + (1 : Int32))).toNatClampNeg) (X ((x3 + (2 : Int32))).toNatClampNeg) (X ((x3 + (3 : Int32))).toNatClampNeg)) fun v1 =>
  bn (gd (inR (x3 + (1 : Int32)) L)) fun _ =>
  bn (gd (inR (x3 + (2 : Int32)) L)) fun _ =>
  bn (gd (inR (x3 + (3 : Int32)) L)) fun _ =>
  bn (F_R_set (X ((x3 + (1 : Int32))).toNatClampNeg) (X ((x3 + (2 : Int32))).toNatClampNeg) (X ((x3 + (3 : Int32))).toNatClampNeg)) fun v2 =>
  (if v1 = v2 then
    K_L_law_1533 L X x3
  else
    bn (gdZ (0 : Int32)) fun _ => rt (.inr (0 : Int32)))
set_option maxRecDepth 4000 in
theorem e_s_L_law_311 (f_A_act : Int32 → Int32 → Int32 → M Int32) (f_A_alias : Int32 → Int32 → Int32 → M Int32) (f_A_bed : Int32 → Int32 → M Int32) (f_A_beds : Int32 → M Int32) (f_A_birthdays : Int32 → Int32 → Int32 → M Int32) (f_A_book : Int32 → Int32 → M Int32) (f_A_boot : Int32 → M Int32) (f_A_box : Int32 → M Int32) (f_A_end : Int32 → M Int32) (f_A_fault : Int32 → M Int32) (f_A_feed : Int32 → Int32 → Int32 → Int32 → Int32 → M Int32) (f_A_game : Int32 → Int32 → Int32 → M Int32) (f_A_goes : Int32 → Int32 → M Int32) (f_A_hoop : Int32 → Int32 → Int32 → M Int32) (f_A_hours : Int32 → M Int32) (f_A_image : Int32 → M Int32) (f_A_keeps : Int32 → M Int32) (f_A_least : Int32 → M Int32) (f_A_letter : Int32 → Int32 → M Int32) (f_A_loan : Int32 → Int32 → Int32 → M Int32) (f_A_look : Int32 → M Int32) (f_A_named : Int32 → M Int32) (f_A_names : Int32 → M Int32) (f_A_net : Int32 → Int32 → M Int32) (f_A_notes : Int32 → M Int32) (f_A_of : Int32 → Int32 → M Int32) (f_A_pair : Int32 → Int32 → Int32 → M Int32) (f_A_person : Int32 → Int32 → M Int32) (f_A_persons : Int32 → Int32 → M Int32) (f_A_says : Int32 → Int32 → Int32 → M Int32) (f_A_set : Int32 → Int32 → Int32 → M Int32) (f_A_settled : Int32 → M Int32) (f_A_sighted : Int32 → Int32 → M Int32) (f_A_speakers : Int32 → M Int32) (f_A_state : Int32 → M Int32) (f_A_street : Int32 → Int32 → M Int32) (f_A_swings : Int32 → Int32 → M Int32) (f_A_text : Int32 → M Int32) (f_A_undo : M Int32) (f_A_vote : Int32 → M Int32) (f_A_who : Int32 → Int32 → M Int32) (f_R_act : Int32 → Int32 → Int32 → M Int32) (f_R_alias : Int32 → Int32 → Int32 → M Int32) (f_R_bed : Int32 → Int32 → M Int32) (f_R_beds : Int32 → M Int32) (f_R_birthdays : Int32 → Int32 → Int32 → M Int32) (f_R_book : Int32 → Int32 → M Int32) (f_R_boot : Int32 → M Int32) (f_R_box : Int32 → M Int32) (f_R_end : Int32 → M Int32) (f_R_fault : Int32 → M Int32) (f_R_feed : Int32 → Int32 → Int32 → Int32 → Int32 → M Int32) (f_R_game : Int32 → Int32 → Int32 → M Int32) (f_R_goes : Int32 → Int32 → M Int32) (f_R_hoop : Int32 → Int32 → Int32 → M Int32) (f_R_hours : Int32 → M Int32) (f_R_image : Int32 → M Int32) (f_R_keeps : Int32 → M Int32) (f_R_least : Int32 → M Int32) (f_R_letter : Int32 → Int32 → M Int32) (f_R_loan : Int32 → Int32 → Int32 → M Int32) (f_R_look : Int32 → M Int32) (f_R_named : Int32 → M Int32) (f_R_names : Int32 → M Int32) (f_R_net : Int32 → Int32 → M Int32) (f_R_notes : Int32 → M Int32) (f_R_of : Int32 → Int32 → M Int32) (f_R_pair : Int32 → Int32 → Int32 → M Int32) (f_R_person : Int32 → Int32 → M Int32) (f_R_persons : Int32 → Int32 → M Int32) (f_R_says : Int32 → Int32 → Int32 → M Int32) (f_R_set : Int32 → Int32 → Int32 → M Int32) (f_R_settled : Int32 → M Int32) (f_R_sighted : Int32 → Int32 → M Int32) (f_R_speakers : Int32 → M Int32) (f_R_state : Int32 → M Int32) (f_R_street : Int32 → Int32 → M Int32) (f_R_swings : Int32 → Int32 → M Int32) (f_R_text : Int32 → M Int32) (f_R_undo : M Int32) (f_R_vote : Int32 → M Int32) (f_R_who : Int32 → Int32 → M Int32) (k_1533 : Int32 → M ((Int32) ⊕ (Int32))) (x3 : Int32) : wf (β := (Int32) ⊕ (Int32)) L X q_L_law 2 (cs_L_law f_A_act f_A_alias f_A_bed f_A_beds f_A_birthdays f_A_book f_A_boot f_A_box f_A_end f_A_fault f_A_feed f_A_game f_A_goes f_A_hoop f_A_hours f_A_image f_A_keeps f_A_least f_A_letter f_A_loan f_A_look f_A_named f_A_names f_A_net f_A_notes f_A_of f_A_pair f_A_person f_A_persons f_A_says f_A_set f_A_settled f_A_sighted f_A_speakers f_A_state f_A_street f_A_swings f_A_text f_A_undo f_A_vote f_A_who f_R_act f_R_alias f_R_bed f_R_beds f_R_birthdays f_R_book f_R_boot f_R_box f_R_end f_R_fault f_R_feed f_R_game f_R_goes f_R_hoop f_R_hours f_R_image f_R_keeps f_R_least f_R_letter f_R_loan f_R_look f_R_named f_R_names f_R_net f_R_notes f_R_of f_R_pair f_R_person f_R_persons f_R_says f_R_set f_R_settled f_R_sighted f_R_speakers f_R_state f_R_street f_R_swings f_R_text f_R_undo f_R_vote f_R_who) [] [18, 212, 235, 268, 311, 354, 397, 420, 483, 506, 529, 552, 585, 618, 651, 684, 717, 740, 773, 806, 865, 888, 947, 970, 993, 1026, 1049, 1092, 1125, 1148, 1171, 1204, 1227, 1250, 1273, 1306, 1349, 1392, 1415, 1458, 1471, 1510, 1533] (fun pc ls st => mC (Nat.beq pc 1533) (mN st <| k_1533 x3) (fl)) (fun v => match v with | some (_, .int x) => rt (.inr x) | _ => fl) 1072 311 [(9997, .ref 1000000), (111, .ref 0), (112, .ref 207), (0, .int x3)] [] = (bn (gd (inR (x3 + (1 : Int32)) L)) fun _ =>
  bn (gd (inR (x3 + (2 : Int32)) L)) fun _ =>
  bn (gd (inR (x3 + (3 : Int32)) L)) fun _ =>
  bn (f_A_set (X ((x3 + (1 : Int32))).toNatClampNeg) (X ((x3 + (2 : Int32))).toNatClampNeg) (X ((x3 + (3 : Int32))).toNatClampNeg)) fun v1 =>
  bn (gd (inR (x3 + (1 : Int32)) L)) fun _ =>
  bn (gd (inR (x3 + (2 : Int32)) L)) fun _ =>
  bn (gd (inR (x3 + (3 : Int32)) L)) fun _ =>
  bn (f_R_set (X ((x3 + (1 : Int32))).toNatClampNeg) (X ((x3 + (2 : Int32))).toNatClampNeg) (X ((x3 + (3 : Int32))).toNatClampNeg)) fun v2 =>
  (if v1 = v2 then
    k_1533 x3
  else
    bn (gdZ (0 : Int32)) fun _ => rt (.inr (0 : Int32)))) := rfl
theorem s_L_law_311 {d : Nat} (L : Nat) (X : Nat → Int32) (hcs : AllS L X d (cs_L_law F_A_act F_A_alias F_A_bed F_A_beds F_A_birthdays F_A_book F_A_boot F_A_box F_A_end F_A_fault F_A_feed F_A_game F_A_goes F_A_hoop F_A_hours F_A_image F_A_keeps F_A_least F_A_letter F_A_loan F_A_look F_A_named F_A_names F_A_net F_A_notes F_A_of F_A_pair F_A_person F_A_persons F_A_says F_A_set F_A_settled F_A_sighted F_A_speakers F_A_state F_A_street F_A_swings F_A_text F_A_undo F_A_vote F_A_who F_R_act F_R_alias F_R_bed F_R_beds F_R_birthdays F_R_book F_R_boot F_R_box F_R_end F_R_fault F_R_feed F_R_game F_R_goes F_R_hoop F_R_hours F_R_image F_R_keeps F_R_least F_R_letter F_R_loan F_R_look F_R_named F_R_names F_R_net F_R_notes F_R_of F_R_pair F_R_person F_R_persons F_R_says F_R_set F_R_settled F_R_sighted F_R_speakers F_R_state F_R_street F_R_swings F_R_text F_R_undo F_R_vote F_R_who)) (x3 : Int32) {o : Option Value × PH} {Q : ((Int32) ⊕ (Int32)) → MI → Prop} (qb : ∀ y I, Q (.inl y) I → At L X (d + 1) 331 18 [(9997, .ref 1000000), (111, .ref 0), (112, .ref 207), (0, .int y)] [] I o) (qr : ∀ v I, Q (.inr v) I → o = (some (.int v), HH I)) (I : MI) (r : (Int32) ⊕ (Int32)) (I1 : MI) (h : K_L_law_311 L X x3 I = some (r, I1)) (hq : Q r I1) : At L X (d + 1) 331 311 [(9997, .ref 1000000), (111, .ref 0), (112, .ref 207), (0, .int x3)] [] I o := by
  refine wf_ok z_L_law hcs ?_ ?_ _ _ _ _ _ ⟨rfl, rfl, rfl, trivial, trivial⟩ trivial (unm_refl _ _) ((congrFun (e_s_L_law_311 (L := L) (X := X) F_A_act F_A_alias F_A_bed F_A_beds F_A_birthdays F_A_book F_A_boot F_A_box F_A_end F_A_fault F_A_feed F_A_game F_A_goes F_A_hoop F_A_hours F_A_image F_A_keeps F_A_least F_A_letter F_A_loan F_A_look F_A_named F_A_names F_A_net F_A_notes F_A_of F_A_pair F_A_person F_A_persons F_A_says F_A_set F_A_settled F_A_sighted F_A_speakers F_A_state F_A_street F_A_swings F_A_text F_A_undo F_A_vote F_A_who F_R_act F_R_alias F_R_bed F_R_beds F_R_birthdays F_R_book F_R_boot F_R_box F_R_end F_R_fault F_R_feed F_R_game F_R_goes F_R_hoop F_R_hours F_R_image F_R_keeps F_R_least F_R_letter F_R_loan F_R_look F_R_named F_R_names F_R_net F_R_notes F_R_of F_R_pair F_R_person F_R_persons F_R_says F_R_set F_R_settled F_R_sighted F_R_speakers F_R_state F_R_street F_R_swings F_R_text F_R_undo F_R_vote F_R_who (K_L_law_1533 L X) x3) I).trans h)
  · intro pc ls st I2 h1 h2 h3 h
    rcases mC_ok h with ⟨hb, h⟩ | ⟨_, h⟩
    · have e := Nat.eq_of_beq_eq_true hb
      subst e
      obtain ⟨hst, h⟩ := mN_ok h
      subst hst
      refine at_leaf (ls2 := [(9997, .ref 1000000), (111, .ref 0), (112, .ref 207), (0, .int x3)]) h3.1 ⟨Or.inr ⟨_, (h3.2 0 rfl).trans rfl⟩, Or.inr ⟨_, (h3.2 1 rfl).trans rfl⟩, Or.inr ⟨_, (h3.2 2 rfl).trans rfl⟩, Or.inr ⟨_, (h3.2 3 rfl).trans rfl⟩, trivial⟩ ?_
      exact s_L_law_1533 L X hcs x3 qb qr _ _ _ h hq
    cases h
  · intro v I2 _ h
    split at h
    · cases h; exact qr _ _ hq
    · cases h
def K_L_law_354 (L : Nat) (X : Nat → Int32) (x3 : Int32) : M ((Int32) ⊕ (Int32)) :=
  bn (gd (inR (x3 + (1 : Int32)) L)) fun _ =>
  bn (gd (inR (x3 + (2 : Int32)) L)) fun _ =>
  bn (gd (inR (x3 + (3 : Int32)) L)) fun _ =>
  bn (F_A_act (X ((x3 + (1 : Int32))).toNatClampNeg) (X ((x3 + (2 : Int32))).toNatClampNeg) (X ((x3 + (3 : Int32))).toNatClampNeg)) fun v1 =>
  bn (gd (inR (x3 + (1 : Int32)) L)) fun _ =>
  bn (gd (inR (x3 + (2 : Int32)) L)) fun _ =>
  bn (gd (inR (x3 + (3 : Int32)) L)) fun _ =>
  bn (F_R_act (X ((x3 + (1 : Int32))).toNatClampNeg) (X ((x3 + (2 : Int32))).toNatClampNeg) (X ((x3 + (3 : Int32))).toNatClampNeg)) fun v2 =>
  (if v1 = v2 then
    K_L_law_1533 L X x3
  else
    bn (gdZ (0 : Int32)) fun _ => rt (.inr (0 : Int32)))
set_option maxRecDepth 4000 in
theorem e_s_L_law_354 (f_A_act : Int32 → Int32 → Int32 → M Int32) (f_A_alias : Int32 → Int32 → Int32 → M Int32) (f_A_bed : Int32 → Int32 → M Int32) (f_A_beds : Int32 → M Int32) (f_A_birthdays : Int32 → Int32 → Int32 → M Int32) (f_A_book : Int32 → Int32 → M Int32) (f_A_boot : Int32 → M Int32) (f_A_box : Int32 → M Int32) (f_A_end : Int32 → M Int32) (f_A_fault : Int32 → M Int32) (f_A_feed : Int32 → Int32 → Int32 → Int32 → Int32 → M Int32) (f_A_game : Int32 → Int32 → Int32 → M Int32) (f_A_goes : Int32 → Int32 → M Int32) (f_A_hoop : Int32 → Int32 → Int32 → M Int32) (f_A_hours : Int32 → M Int32) (f_A_image : Int32 → M Int32) (f_A_keeps : Int32 → M Int32) (f_A_least : Int32 → M Int32) (f_A_letter : Int32 → Int32 → M Int32) (f_A_loan : Int32 → Int32 → Int32 → M Int32) (f_A_look : Int32 → M Int32) (f_A_named : Int32 → M Int32) (f_A_names : Int32 → M Int32) (f_A_net : Int32 → Int32 → M Int32) (f_A_notes : Int32 → M Int32) (f_A_of : Int32 → Int32 → M Int32) (f_A_pair : Int32 → Int32 → Int32 → M Int32) (f_A_person : Int32 → Int32 → M Int32) (f_A_persons : Int32 → Int32 → M Int32) (f_A_says : Int32 → Int32 → Int32 → M Int32) (f_A_set : Int32 → Int32 → Int32 → M Int32) (f_A_settled : Int32 → M Int32) (f_A_sighted : Int32 → Int32 → M Int32) (f_A_speakers : Int32 → M Int32) (f_A_state : Int32 → M Int32) (f_A_street : Int32 → Int32 → M Int32) (f_A_swings : Int32 → Int32 → M Int32) (f_A_text : Int32 → M Int32) (f_A_undo : M Int32) (f_A_vote : Int32 → M Int32) (f_A_who : Int32 → Int32 → M Int32) (f_R_act : Int32 → Int32 → Int32 → M Int32) (f_R_alias : Int32 → Int32 → Int32 → M Int32) (f_R_bed : Int32 → Int32 → M Int32) (f_R_beds : Int32 → M Int32) (f_R_birthdays : Int32 → Int32 → Int32 → M Int32) (f_R_book : Int32 → Int32 → M Int32) (f_R_boot : Int32 → M Int32) (f_R_box : Int32 → M Int32) (f_R_end : Int32 → M Int32) (f_R_fault : Int32 → M Int32) (f_R_feed : Int32 → Int32 → Int32 → Int32 → Int32 → M Int32) (f_R_game : Int32 → Int32 → Int32 → M Int32) (f_R_goes : Int32 → Int32 → M Int32) (f_R_hoop : Int32 → Int32 → Int32 → M Int32) (f_R_hours : Int32 → M Int32) (f_R_image : Int32 → M Int32) (f_R_keeps : Int32 → M Int32) (f_R_least : Int32 → M Int32) (f_R_letter : Int32 → Int32 → M Int32) (f_R_loan : Int32 → Int32 → Int32 → M Int32) (f_R_look : Int32 → M Int32) (f_R_named : Int32 → M Int32) (f_R_names : Int32 → M Int32) (f_R_net : Int32 → Int32 → M Int32) (f_R_notes : Int32 → M Int32) (f_R_of : Int32 → Int32 → M Int32) (f_R_pair : Int32 → Int32 → Int32 → M Int32) (f_R_person : Int32 → Int32 → M Int32) (f_R_persons : Int32 → Int32 → M Int32) (f_R_says : Int32 → Int32 → Int32 → M Int32) (f_R_set : Int32 → Int32 → Int32 → M Int32) (f_R_settled : Int32 → M Int32) (f_R_sighted : Int32 → Int32 → M Int32) (f_R_speakers : Int32 → M Int32) (f_R_state : Int32 → M Int32) (f_R_street : Int32 → Int32 → M Int32) (f_R_swings : Int32 → Int32 → M Int32) (f_R_text : Int32 → M Int32) (f_R_undo : M Int32) (f_R_vote : Int32 → M Int32) (f_R_who : Int32 → Int32 → M Int32) (k_1533 : Int32 → M ((Int32) ⊕ (Int32))) (x3 : Int32) : wf (β := (Int32) ⊕ (Int32)) L X q_L_law 2 (cs_L_law f_A_act f_A_alias f_A_bed f_A_beds f_A_birthdays f_A_book f_A_boot f_A_box f_A_end f_A_fault f_A_feed f_A_game f_A_goes f_A_hoop f_A_hours f_A_image f_A_keeps f_A_least f_A_letter f_A_loan f_A_look f_A_named f_A_names f_A_net f_A_notes f_A_of f_A_pair f_A_person f_A_persons f_A_says f_A_set f_A_settled f_A_sighted f_A_speakers f_A_state f_A_street f_A_swings f_A_text f_A_undo f_A_vote f_A_who f_R_act f_R_alias f_R_bed f_R_beds f_R_birthdays f_R_book f_R_boot f_R_box f_R_end f_R_fault f_R_feed f_R_game f_R_goes f_R_hoop f_R_hours f_R_image f_R_keeps f_R_least f_R_letter f_R_loan f_R_look f_R_named f_R_names f_R_net f_R_notes f_R_of f_R_pair f_R_person f_R_persons f_R_says f_R_set f_R_settled f_R_sighted f_R_speakers f_R_state f_R_street f_R_swings f_R_text f_R_undo f_R_vote f_R_who) [] [18, 212, 235, 268, 311, 354, 397, 420, 483, 506, 529, 552, 585, 618, 651, 684, 717, 740, 773, 806, 865, 888, 947, 970, 993, 1026, 1049, 1092, 1125, 1148, 1171, 1204, 1227, 1250, 1273, 1306, 1349, 1392, 1415, 1458, 1471, 1510, 1533] (fun pc ls st => mC (Nat.beq pc 1533) (mN st <| k_1533 x3) (fl)) (fun v => match v with | some (_, .int x) => rt (.inr x) | _ => fl) 1072 354 [(9997, .ref 1000000), (111, .ref 0), (112, .ref 207), (0, .int x3)] [] = (bn (gd (inR (x3 + (1 : Int32)) L)) fun _ =>
  bn (gd (inR (x3 + (2 : Int32)) L)) fun _ =>
  bn (gd (inR (x3 + (3 : Int32)) L)) fun _ =>
  bn (f_A_act (X ((x3 + (1 : Int32))).toNatClampNeg) (X ((x3 + (2 : Int32))).toNatClampNeg) (X ((x3 + (3 : Int32))).toNatClampNeg)) fun v1 =>
  bn (gd (inR (x3 + (1 : Int32)) L)) fun _ =>
  bn (gd (inR (x3 + (2 : Int32)) L)) fun _ =>
  bn (gd (inR (x3 + (3 : Int32)) L)) fun _ =>
  bn (f_R_act (X ((x3 + (1 : Int32))).toNatClampNeg) (X ((x3 + (2 : Int32))).toNatClampNeg) (X ((x3 + (3 : Int32))).toNatClampNeg)) fun v2 =>
  (if v1 = v2 then
    k_1533 x3
  else
    bn (gdZ (0 : Int32)) fun _ => rt (.inr (0 : Int32)))) := rfl
theorem s_L_law_354 {d : Nat} (L : Nat) (X : Nat → Int32) (hcs : AllS L X d (cs_L_law F_A_act F_A_alias F_A_bed F_A_beds F_A_birthdays F_A_book F_A_boot F_A_box F_A_end F_A_fault F_A_feed F_A_game F_A_goes F_A_hoop F_A_hours F_A_image F_A_keeps F_A_least F_A_letter F_A_loan F_A_look F_A_named F_A_names F_A_net F_A_notes F_A_of F_A_pair F_A_person F_A_persons F_A_says F_A_set F_A_settled F_A_sighted F_A_speakers F_A_state F_A_street F_A_swings F_A_text F_A_undo F_A_vote F_A_who F_R_act F_R_alias F_R_bed F_R_beds F_R_birthdays F_R_book F_R_boot F_R_box F_R_end F_R_fault F_R_feed F_R_game F_R_goes F_R_hoop F_R_hours F_R_image F_R_keeps F_R_least F_R_letter F_R_loan F_R_look F_R_named F_R_names F_R_net F_R_notes F_R_of F_R_pair F_R_person F_R_persons F_R_says F_R_set F_R_settled F_R_sighted F_R_speakers F_R_state F_R_street F_R_swings F_R_text F_R_undo F_R_vote F_R_who)) (x3 : Int32) {o : Option Value × PH} {Q : ((Int32) ⊕ (Int32)) → MI → Prop} (qb : ∀ y I, Q (.inl y) I → At L X (d + 1) 331 18 [(9997, .ref 1000000), (111, .ref 0), (112, .ref 207), (0, .int y)] [] I o) (qr : ∀ v I, Q (.inr v) I → o = (some (.int v), HH I)) (I : MI) (r : (Int32) ⊕ (Int32)) (I1 : MI) (h : K_L_law_354 L X x3 I = some (r, I1)) (hq : Q r I1) : At L X (d + 1) 331 354 [(9997, .ref 1000000), (111, .ref 0), (112, .ref 207), (0, .int x3)] [] I o := by
  refine wf_ok z_L_law hcs ?_ ?_ _ _ _ _ _ ⟨rfl, rfl, rfl, trivial, trivial⟩ trivial (unm_refl _ _) ((congrFun (e_s_L_law_354 (L := L) (X := X) F_A_act F_A_alias F_A_bed F_A_beds F_A_birthdays F_A_book F_A_boot F_A_box F_A_end F_A_fault F_A_feed F_A_game F_A_goes F_A_hoop F_A_hours F_A_image F_A_keeps F_A_least F_A_letter F_A_loan F_A_look F_A_named F_A_names F_A_net F_A_notes F_A_of F_A_pair F_A_person F_A_persons F_A_says F_A_set F_A_settled F_A_sighted F_A_speakers F_A_state F_A_street F_A_swings F_A_text F_A_undo F_A_vote F_A_who F_R_act F_R_alias F_R_bed F_R_beds F_R_birthdays F_R_book F_R_boot F_R_box F_R_end F_R_fault F_R_feed F_R_game F_R_goes F_R_hoop F_R_hours F_R_image F_R_keeps F_R_least F_R_letter F_R_loan F_R_look F_R_named F_R_names F_R_net F_R_notes F_R_of F_R_pair F_R_person F_R_persons F_R_says F_R_set F_R_settled F_R_sighted F_R_speakers F_R_state F_R_street F_R_swings F_R_text F_R_undo F_R_vote F_R_who (K_L_law_1533 L X) x3) I).trans h)
  · intro pc ls st I2 h1 h2 h3 h
    rcases mC_ok h with ⟨hb, h⟩ | ⟨_, h⟩
    · have e := Nat.eq_of_beq_eq_true hb
      subst e
      obtain ⟨hst, h⟩ := mN_ok h
      subst hst
      refine at_leaf (ls2 := [(9997, .ref 1000000), (111, .ref 0), (112, .ref 207), (0, .int x3)]) h3.1 ⟨Or.inr ⟨_, (h3.2 0 rfl).trans rfl⟩, Or.inr ⟨_, (h3.2 1 rfl).trans rfl⟩, Or.inr ⟨_, (h3.2 2 rfl).trans rfl⟩, Or.inr ⟨_, (h3.2 3 rfl).trans rfl⟩, trivial⟩ ?_
      exact s_L_law_1533 L X hcs x3 qb qr _ _ _ h hq
    cases h
  · intro v I2 _ h
    split at h
    · cases h; exact qr _ _ hq
    · cases h
def K_L_law_397 (L : Nat) (X : Nat → Int32) (x3 : Int32) : M ((Int32) ⊕ (Int32)) :=
  bn (gd (inR (x3 + (1 : Int32)) L)) fun _ =>
  bn (F_A_hours (X ((x3 + (1 : Int32))).toNatClampNeg)) fun v1 =>
  bn (gd (inR (x3 + (1 : Int32)) L)) fun _ =>
  bn (F_R_hours (X ((x3 + (1 : Int32))).toNatClampNeg)) fun v2 =>
  (if v1 = v2 then
    K_L_law_1533 L X x3
  else
    bn (gdZ (0 : Int32)) fun _ => rt (.inr (0 : Int32)))
set_option maxRecDepth 4000 in
theorem e_s_L_law_397 (f_A_act : Int32 → Int32 → Int32 → M Int32) (f_A_alias : Int32 → Int32 → Int32 → M Int32) (f_A_bed : Int32 → Int32 → M Int32) (f_A_beds : Int32 → M Int32) (f_A_birthdays : Int32 → Int32 → Int32 → M Int32) (f_A_book : Int32 → Int32 → M Int32) (f_A_boot : Int32 → M Int32) (f_A_box : Int32 → M Int32) (f_A_end : Int32 → M Int32) (f_A_fault : Int32 → M Int32) (f_A_feed : Int32 → Int32 → Int32 → Int32 → Int32 → M Int32) (f_A_game : Int32 → Int32 → Int32 → M Int32) (f_A_goes : Int32 → Int32 → M Int32) (f_A_hoop : Int32 → Int32 → Int32 → M Int32) (f_A_hours : Int32 → M Int32) (f_A_image : Int32 → M Int32) (f_A_keeps : Int32 → M Int32) (f_A_least : Int32 → M Int32) (f_A_letter : Int32 → Int32 → M Int32) (f_A_loan : Int32 → Int32 → Int32 → M Int32) (f_A_look : Int32 → M Int32) (f_A_named : Int32 → M Int32) (f_A_names : Int32 → M Int32) (f_A_net : Int32 → Int32 → M Int32) (f_A_notes : Int32 → M Int32) (f_A_of : Int32 → Int32 → M Int32) (f_A_pair : Int32 → Int32 → Int32 → M Int32) (f_A_person : Int32 → Int32 → M Int32) (f_A_persons : Int32 → Int32 → M Int32) (f_A_says : Int32 → Int32 → Int32 → M Int32) (f_A_set : Int32 → Int32 → Int32 → M Int32) (f_A_settled : Int32 → M Int32) (f_A_sighted : Int32 → Int32 → M Int32) (f_A_speakers : Int32 → M Int32) (f_A_state : Int32 → M Int32) (f_A_street : Int32 → Int32 → M Int32) (f_A_swings : Int32 → Int32 → M Int32) (f_A_text : Int32 → M Int32) (f_A_undo : M Int32) (f_A_vote : Int32 → M Int32) (f_A_who : Int32 → Int32 → M Int32) (f_R_act : Int32 → Int32 → Int32 → M Int32) (f_R_alias : Int32 → Int32 → Int32 → M Int32) (f_R_bed : Int32 → Int32 → M Int32) (f_R_beds : Int32 → M Int32) (f_R_birthdays : Int32 → Int32 → Int32 → M Int32) (f_R_book : Int32 → Int32 → M Int32) (f_R_boot : Int32 → M Int32) (f_R_box : Int32 → M Int32) (f_R_end : Int32 → M Int32) (f_R_fault : Int32 → M Int32) (f_R_feed : Int32 → Int32 → Int32 → Int32 → Int32 → M Int32) (f_R_game : Int32 → Int32 → Int32 → M Int32) (f_R_goes : Int32 → Int32 → M Int32) (f_R_hoop : Int32 → Int32 → Int32 → M Int32) (f_R_hours : Int32 → M Int32) (f_R_image : Int32 → M Int32) (f_R_keeps : Int32 → M Int32) (f_R_least : Int32 → M Int32) (f_R_letter : Int32 → Int32 → M Int32) (f_R_loan : Int32 → Int32 → Int32 → M Int32) (f_R_look : Int32 → M Int32) (f_R_named : Int32 → M Int32) (f_R_names : Int32 → M Int32) (f_R_net : Int32 → Int32 → M Int32) (f_R_notes : Int32 → M Int32) (f_R_of : Int32 → Int32 → M Int32) (f_R_pair : Int32 → Int32 → Int32 → M Int32) (f_R_person : Int32 → Int32 → M Int32) (f_R_persons : Int32 → Int32 → M Int32) (f_R_says : Int32 → Int32 → Int32 → M Int32) (f_R_set : Int32 → Int32 → Int32 → M Int32) (f_R_settled : Int32 → M Int32) (f_R_sighted : Int32 → Int32 → M Int32) (f_R_speakers : Int32 → M Int32) (f_R_state : Int32 → M Int32) (f_R_street : Int32 → Int32 → M Int32) (f_R_swings : Int32 → Int32 → M Int32) (f_R_text : Int32 → M Int32) (f_R_undo : M Int32) (f_R_vote : Int32 → M Int32) (f_R_who : Int32 → Int32 → M Int32) (k_1533 : Int32 → M ((Int32) ⊕ (Int32))) (x3 : Int32) : wf (β := (Int32) ⊕ (Int32)) L X q_L_law 2 (cs_L_law f_A_act f_A_alias f_A_bed f_A_beds f_A_birthdays f_A_book f_A_boot f_A_box f_A_end f_A_fault f_A_feed f_A_game f_A_goes f_A_hoop f_A_hours f_A_image f_A_keeps f_A_least f_A_letter f_A_loan f_A_look f_A_named f_A_names f_A_net f_A_notes f_A_of f_A_pair f_A_person f_A_persons f_A_says f_A_set f_A_settled f_A_sighted f_A_speakers f_A_state f_A_street f_A_swings f_A_text f_A_undo f_A_vote f_A_who f_R_act f_R_alias f_R_bed f_R_beds f_R_birthdays f_R_book f_R_boot f_R_box f_R_end f_R_fault f_R_feed f_R_game f_R_goes f_R_hoop f_R_hours f_R_image f_R_keeps f_R_least f_R_letter f_R_loan f_R_look f_R_named f_R_names f_R_net f_R_notes f_R_of f_R_pair f_R_person f_R_persons f_R_says f_R_set f_R_settled f_R_sighted f_R_speakers f_R_state f_R_street f_R_swings f_R_text f_R_undo f_R_vote f_R_who) [] [18, 212, 235, 268, 311, 354, 397, 420, 483, 506, 529, 552, 585, 618, 651, 684, 717, 740, 773, 806, 865, 888, 947, 970, 993, 1026, 1049, 1092, 1125, 1148, 1171, 1204, 1227, 1250, 1273, 1306, 1349, 1392, 1415, 1458, 1471, 1510, 1533] (fun pc ls st => mC (Nat.beq pc 1533) (mN st <| k_1533 x3) (fl)) (fun v => match v with | some (_, .int x) => rt (.inr x) | _ => fl) 1072 397 [(9997, .ref 1000000), (111, .ref 0), (112, .ref 207), (0, .int x3)] [] = (bn (gd (inR (x3 + (1 : Int32)) L)) fun _ =>
  bn (f_A_hours (X ((x3 + (1 : Int32))).toNatClampNeg)) fun v1 =>
  bn (gd (inR (x3 + (1 : Int32)) L)) fun _ =>
  bn (f_R_hours (X ((x3 + (1 : Int32))).toNatClampNeg)) fun v2 =>
  (if v1 = v2 then
    k_1533 x3
  else
    bn (gdZ (0 : Int32)) fun _ => rt (.inr (0 : Int32)))) := rfl
theorem s_L_law_397 {d : Nat} (L : Nat) (X : Nat → Int32) (hcs : AllS L X d (cs_L_law F_A_act F_A_alias F_A_bed F_A_beds F_A_birthdays F_A_book F_A_boot F_A_box F_A_end F_A_fault F_A_feed F_A_game F_A_goes F_A_hoop F_A_hours F_A_image F_A_keeps F_A_least F_A_letter F_A_loan F_A_look F_A_named F_A_names F_A_net F_A_notes F_A_of F_A_pair F_A_person F_A_persons F_A_says F_A_set F_A_settled F_A_sighted F_A_speakers F_A_state F_A_street F_A_swings F_A_text F_A_undo F_A_vote F_A_who F_R_act F_R_alias F_R_bed F_R_beds F_R_birthdays F_R_book F_R_boot F_R_box F_R_end F_R_fault F_R_feed F_R_game F_R_goes F_R_hoop F_R_hours F_R_image F_R_keeps F_R_least F_R_letter F_R_loan F_R_look F_R_named F_R_names F_R_net F_R_notes F_R_of F_R_pair F_R_person F_R_persons F_R_says F_R_set F_R_settled F_R_sighted F_R_speakers F_R_state F_R_street F_R_swings F_R_text F_R_undo F_R_vote F_R_who)) (x3 : Int32) {o : Option Value × PH} {Q : ((Int32) ⊕ (Int32)) → MI → Prop} (qb : ∀ y I, Q (.inl y) I → At L X (d + 1) 331 18 [(9997, .ref 1000000), (111, .ref 0), (112, .ref 207), (0, .int y)] [] I o) (qr : ∀ v I, Q (.inr v) I → o = (some (.int v), HH I)) (I : MI) (r : (Int32) ⊕ (Int32)) (I1 : MI) (h : K_L_law_397 L X x3 I = some (r, I1)) (hq : Q r I1) : At L X (d + 1) 331 397 [(9997, .ref 1000000), (111, .ref 0), (112, .ref 207), (0, .int x3)] [] I o := by
  refine wf_ok z_L_law hcs ?_ ?_ _ _ _ _ _ ⟨rfl, rfl, rfl, trivial, trivial⟩ trivial (unm_refl _ _) ((congrFun (e_s_L_law_397 (L := L) (X := X) F_A_act F_A_alias F_A_bed F_A_beds F_A_birthdays F_A_book F_A_boot F_A_box F_A_end F_A_fault F_A_feed F_A_game F_A_goes F_A_hoop F_A_hours F_A_image F_A_keeps F_A_least F_A_letter F_A_loan F_A_look F_A_named F_A_names F_A_net F_A_notes F_A_of F_A_pair F_A_person F_A_persons F_A_says F_A_set F_A_settled F_A_sighted F_A_speakers F_A_state F_A_street F_A_swings F_A_text F_A_undo F_A_vote F_A_who F_R_act F_R_alias F_R_bed F_R_beds F_R_birthdays F_R_book F_R_boot F_R_box F_R_end F_R_fault F_R_feed F_R_game F_R_goes F_R_hoop F_R_hours F_R_image F_R_keeps F_R_least F_R_letter F_R_loan F_R_look F_R_named F_R_names F_R_net F_R_notes F_R_of F_R_pair F_R_person F_R_persons F_R_says F_R_set F_R_settled F_R_sighted F_R_speakers F_R_state F_R_street F_R_swings F_R_text F_R_undo F_R_vote F_R_who (K_L_law_1533 L X) x3) I).trans h)
  · intro pc ls st I2 h1 h2 h3 h
    rcases mC_ok h with ⟨hb, h⟩ | ⟨_, h⟩
    · have e := Nat.eq_of_beq_eq_true hb
      subst e
      obtain ⟨hst, h⟩ := mN_ok h
      subst hst
      refine at_leaf (ls2 := [(9997, .ref 1000000), (111, .ref 0), (112, .ref 207), (0, .int x3)]) h3.1 ⟨Or.inr ⟨_, (h3.2 0 rfl).trans rfl⟩, Or.inr ⟨_, (h3.2 1 rfl).trans rfl⟩, Or.inr ⟨_, (h3.2 2 rfl).trans rfl⟩, Or.inr ⟨_, (h3.2 3 rfl).trans rfl⟩, trivial⟩ ?_
      exact s_L_law_1533 L X hcs x3 qb qr _ _ _ h hq
    cases h
  · intro v I2 _ h
    split at h
    · cases h; exact qr _ _ hq
    · cases h
def K_L_law_420 (L : Nat) (X : Nat → Int32) (x3 : Int32) : M ((Int32) ⊕ (Int32)) :=
  bn (gd (inR (x3 + (1 : Int32)) L)) fun _ =>
  bn (gd (inR (x3 + (2 : Int32)) L)) fun _ =>
  bn (gd (inR (x3 + (3 : Int32)) L)) fun _ =>
  bn (gd (inR (x3 + (4 : Int32)) L)) fun _ =>
  bn (gd (inR (x3 + (5 : Int32)) L)) fun _ =>
  bn (F_A_feed (X ((x3 + (1 : Int32))).toNatClampNeg) (X ((x3 + (2 : Int32))).toNatClampNeg) (X ((x3 + (3 : Int32))).toNatClampNeg) (X ((x3 + (4 : Int32))).toNatClampNeg) (X ((x3 + (5 : Int32))).toNatClampNeg)) fun v1 =>
  bn (gd (inR (x3 + (1 : Int32)) L)) fun _ =>
  bn (gd (inR (x3 + (2 : Int32)) L)) fun _ =>
  bn (gd (inR (x3 + (3 : Int32)) L)) fun _ =>
  bn (gd (inR (x3 + (4 : Int32)) L)) fun _ =>
  bn (gd (inR (x3 + (5 : Int32)) L)) fun _ =>
  bn (F_R_feed (X ((x3 + (1 : Int32))).toNatClampNeg) (X ((x3 + (2 : Int32))).toNatClampNeg) (X ((x3 + (3 : Int32))).toNatClampNeg) (X ((x3 + (4 : Int32))).toNatClampNeg) (X ((x3 + (5 : Int32))).toNatClampNeg)) fun v2 =>
  (if v1 = v2 then
    K_L_law_1533 L X x3
  else
    bn (gdZ (0 : Int32)) fun _ => rt (.inr (0 : Int32)))
set_option maxRecDepth 4000 in
theorem e_s_L_law_420 (f_A_act : Int32 → Int32 → Int32 → M Int32) (f_A_alias : Int32 → Int32 → Int32 → M Int32) (f_A_bed : Int32 → Int32 → M Int32) (f_A_beds : Int32 → M Int32) (f_A_birthdays : Int32 → Int32 → Int32 → M Int32) (f_A_book : Int32 → Int32 → M Int32) (f_A_boot : Int32 → M Int32) (f_A_box : Int32 → M Int32) (f_A_end : Int32 → M Int32) (f_A_fault : Int32 → M Int32) (f_A_feed : Int32 → Int32 → Int32 → Int32 → Int32 → M Int32) (f_A_game : Int32 → Int32 → Int32 → M Int32) (f_A_goes : Int32 → Int32 → M Int32) (f_A_hoop : Int32 → Int32 → Int32 → M Int32) (f_A_hours : Int32 → M Int32) (f_A_image : Int32 → M Int32) (f_A_keeps : Int32 → M Int32) (f_A_least : Int32 → M Int32) (f_A_letter : Int32 → Int32 → M Int32) (f_A_loan : Int32 → Int32 → Int32 → M Int32) (f_A_look : Int32 → M Int32) (f_A_named : Int32 → M Int32) (f_A_names : Int32 → M Int32) (f_A_net : Int32 → Int32 → M Int32) (f_A_notes : Int32 → M Int32) (f_A_of : Int32 → Int32 → M Int32) (f_A_pair : Int32 → Int32 → Int32 → M Int32) (f_A_person : Int32 → Int32 → M Int32) (f_A_persons : Int32 → Int32 → M Int32) (f_A_says : Int32 → Int32 → Int32 → M Int32) (f_A_set : Int32 → Int32 → Int32 → M Int32) (f_A_settled : Int32 → M Int32) (f_A_sighted : Int32 → Int32 → M Int32) (f_A_speakers : Int32 → M Int32) (f_A_state : Int32 → M Int32) (f_A_street : Int32 → Int32 → M Int32) (f_A_swings : Int32 → Int32 → M Int32) (f_A_text : Int32 → M Int32) (f_A_undo : M Int32) (f_A_vote : Int32 → M Int32) (f_A_who : Int32 → Int32 → M Int32) (f_R_act : Int32 → Int32 → Int32 → M Int32) (f_R_alias : Int32 → Int32 → Int32 → M Int32) (f_R_bed : Int32 → Int32 → M Int32) (f_R_beds : Int32 → M Int32) (f_R_birthdays : Int32 → Int32 → Int32 → M Int32) (f_R_book : Int32 → Int32 → M Int32) (f_R_boot : Int32 → M Int32) (f_R_box : Int32 → M Int32) (f_R_end : Int32 → M Int32) (f_R_fault : Int32 → M Int32) (f_R_feed : Int32 → Int32 → Int32 → Int32 → Int32 → M Int32) (f_R_game : Int32 → Int32 → Int32 → M Int32) (f_R_goes : Int32 → Int32 → M Int32) (f_R_hoop : Int32 → Int32 → Int32 → M Int32) (f_R_hours : Int32 → M Int32) (f_R_image : Int32 → M Int32) (f_R_keeps : Int32 → M Int32) (f_R_least : Int32 → M Int32) (f_R_letter : Int32 → Int32 → M Int32) (f_R_loan : Int32 → Int32 → Int32 → M Int32) (f_R_look : Int32 → M Int32) (f_R_named : Int32 → M Int32) (f_R_names : Int32 → M Int32) (f_R_net : Int32 → Int32 → M Int32) (f_R_notes : Int32 → M Int32) (f_R_of : Int32 → Int32 → M Int32) (f_R_pair : Int32 → Int32 → Int32 → M Int32) (f_R_person : Int32 → Int32 → M Int32) (f_R_persons : Int32 → Int32 → M Int32) (f_R_says : Int32 → Int32 → Int32 → M Int32) (f_R_set : Int32 → Int32 → Int32 → M Int32) (f_R_settled : Int32 → M Int32) (f_R_sighted : Int32 → Int32 → M Int32) (f_R_speakers : Int32 → M Int32) (f_R_state : Int32 → M Int32) (f_R_street : Int32 → Int32 → M Int32) (f_R_swings : Int32 → Int32 → M Int32) (f_R_text : Int32 → M Int32) (f_R_undo : M Int32) (f_R_vote : Int32 → M Int32) (f_R_who : Int32 → Int32 → M Int32) (k_1533 : Int32 → M ((Int32) ⊕ (Int32))) (x3 : Int32) : wf (β := (Int32) ⊕ (Int32)) L X q_L_law 2 (cs_L_law f_A_act f_A_alias f_A_bed f_A_beds f_A_birthdays f_A_book f_A_boot f_A_box f_A_end f_A_fault f_A_feed f_A_game f_A_goes f_A_hoop f_A_hours f_A_image f_A_keeps f_A_least f_A_letter f_A_loan f_A_look f_A_named f_A_names f_A_net f_A_notes f_A_of f_A_pair f_A_person f_A_persons f_A_says f_A_set f_A_settled f_A_sighted f_A_speakers f_A_state f_A_street f_A_swings f_A_text f_A_undo f_A_vote f_A_who f_R_act f_R_alias f_R_bed f_R_beds f_R_birthdays f_R_book f_R_boot f_R_box f_R_end f_R_fault f_R_feed f_R_game f_R_goes f_R_hoop f_R_hours f_R_image f_R_keeps f_R_least f_R_letter f_R_loan f_R_look f_R_named f_R_names f_R_net f_R_notes f_R_of f_R_pair f_R_person f_R_persons f_R_says f_R_set f_R_settled f_R_sighted f_R_speakers f_R_state f_R_street f_R_swings f_R_text f_R_undo f_R_vote f_R_who) [] [18, 212, 235, 268, 311, 354, 397, 420, 483, 506, 529, 552, 585, 618, 651, 684, 717, 740, 773, 806, 865, 888, 947, 970, 993, 1026, 1049, 1092, 1125, 1148, 1171, 1204, 1227, 1250, 1273, 1306, 1349, 1392, 1415, 1458, 1471, 1510, 1533] (fun pc ls st => mC (Nat.beq pc 1533) (mN st <| k_1533 x3) (fl)) (fun v => match v with | some (_, .int x) => rt (.inr x) | _ => fl) 1072 420 [(9997, .ref 1000000), (111, .ref 0), (112, .ref 207), (0, .int x3)] [] = (bn (gd (inR (x3 + (1 : Int32)) L)) fun _ =>
  bn (gd (inR (x3 + (2 : Int32)) L)) fun _ =>
  bn (gd (inR (x3 + (3 : Int32)) L)) fun _ =>
  bn (gd (inR (x3 + (4 : Int32)) L)) fun _ =>
  bn (gd (inR (x3 + (5 : Int32)) L)) fun _ =>
  bn (f_A_feed (X ((x3 + (1 : Int32))).toNatClampNeg) (X ((x3 + (2 : Int32))).toNatClampNeg) (X ((x3 + (3 : Int32))).toNatClampNeg) (X ((x3 + (4 : Int32))).toNatClampNeg) (X ((x3 + (5 : Int32))).toNatClampNeg)) fun v1 =>
  bn (gd (inR (x3 + (1 : Int32)) L)) fun _ =>
  bn (gd (inR (x3 + (2 : Int32)) L)) fun _ =>
  bn (gd (inR (x3 + (3 : Int32)) L)) fun _ =>
  bn (gd (inR (x3 + (4 : Int32)) L)) fun _ =>
  bn (gd (inR (x3 + (5 : Int32)) L)) fun _ =>
  bn (f_R_feed (X ((x3 + (1 : Int32))).toNatClampNeg) (X ((x3 + (2 : Int32))).toNatClampNeg) (X ((x3 + (3 : Int32))).toNatClampNeg) (X ((x3 + (4 : Int32))).toNatClampNeg) (X ((x3 + (5 : Int32))).toNatClampNeg)) fun v2 =>
  (if v1 = v2 then
    k_1533 x3
  else
    bn (gdZ (0 : Int32)) fun _ => rt (.inr (0 : Int32)))) := rfl
theorem s_L_law_420 {d : Nat} (L : Nat) (X : Nat → Int32) (hcs : AllS L X d (cs_L_law F_A_act F_A_alias F_A_bed F_A_beds F_A_birthdays F_A_book F_A_boot F_A_box F_A_end F_A_fault F_A_feed F_A_game F_A_goes F_A_hoop F_A_hours F_A_image F_A_keeps F_A_least F_A_letter F_A_loan F_A_look F_A_named F_A_names F_A_net F_A_notes F_A_of F_A_pair F_A_person F_A_persons F_A_says F_A_set F_A_settled F_A_sighted F_A_speakers F_A_state F_A_street F_A_swings F_A_text F_A_undo F_A_vote F_A_who F_R_act F_R_alias F_R_bed F_R_beds F_R_birthdays F_R_book F_R_boot F_R_box F_R_end F_R_fault F_R_feed F_R_game F_R_goes F_R_hoop F_R_hours F_R_image F_R_keeps F_R_least F_R_letter F_R_loan F_R_look F_R_named F_R_names F_R_net F_R_notes F_R_of F_R_pair F_R_person F_R_persons F_R_says F_R_set F_R_settled F_R_sighted F_R_speakers F_R_state F_R_street F_R_swings F_R_text F_R_undo F_R_vote F_R_who)) (x3 : Int32) {o : Option Value × PH} {Q : ((Int32) ⊕ (Int32)) → MI → Prop} (qb : ∀ y I, Q (.inl y) I → At L X (d + 1) 331 18 [(9997, .ref 1000000), (111, .ref 0), (112, .ref 207), (0, .int y)] [] I o) (qr : ∀ v I, Q (.inr v) I → o = (some (.int v), HH I)) (I : MI) (r : (Int32) ⊕ (Int32)) (I1 : MI) (h : K_L_law_420 L X x3 I = some (r, I1)) (hq : Q r I1) : At L X (d + 1) 331 420 [(9997, .ref 1000000), (111, .ref 0), (112, .ref 207), (0, .int x3)] [] I o := by
  refine wf_ok z_L_law hcs ?_ ?_ _ _ _ _ _ ⟨rfl, rfl, rfl, trivial, trivial⟩ trivial (unm_refl _ _) ((congrFun (e_s_L_law_420 (L := L) (X := X) F_A_act F_A_alias F_A_bed F_A_beds F_A_birthdays F_A_book F_A_boot F_A_box F_A_end F_A_fault F_A_feed F_A_game F_A_goes F_A_hoop F_A_hours F_A_image F_A_keeps F_A_least F_A_letter F_A_loan F_A_look F_A_named F_A_names F_A_net F_A_notes F_A_of F_A_pair F_A_person F_A_persons F_A_says F_A_set F_A_settled F_A_sighted F_A_speakers F_A_state F_A_street F_A_swings F_A_text F_A_undo F_A_vote F_A_who F_R_act F_R_alias F_R_bed F_R_beds F_R_birthdays F_R_book F_R_boot F_R_box F_R_end F_R_fault F_R_feed F_R_game F_R_goes F_R_hoop F_R_hours F_R_image F_R_keeps F_R_least F_R_letter F_R_loan F_R_look F_R_named F_R_names F_R_net F_R_notes F_R_of F_R_pair F_R_person F_R_persons F_R_says F_R_set F_R_settled F_R_sighted F_R_speakers F_R_state F_R_street F_R_swings F_R_text F_R_undo F_R_vote F_R_who (K_L_law_1533 L X) x3) I).trans h)
  · intro pc ls st I2 h1 h2 h3 h
    rcases mC_ok h with ⟨hb, h⟩ | ⟨_, h⟩
    · have e := Nat.eq_of_beq_eq_true hb
      subst e
      obtain ⟨hst, h⟩ := mN_ok h
      subst hst
      refine at_leaf (ls2 := [(9997, .ref 1000000), (111, .ref 0), (112, .ref 207), (0, .int x3)]) h3.1 ⟨Or.inr ⟨_, (h3.2 0 rfl).trans rfl⟩, Or.inr ⟨_, (h3.2 1 rfl).trans rfl⟩, Or.inr ⟨_, (h3.2 2 rfl).trans rfl⟩, Or.inr ⟨_, (h3.2 3 rfl).trans rfl⟩, trivial⟩ ?_
      exact s_L_law_1533 L X hcs x3 qb qr _ _ _ h hq
    cases h
  · intro v I2 _ h
    split at h
    · cases h; exact qr _ _ hq
    · cases h
def K_L_law_483 (L : Nat) (X : Nat → Int32) (x3 : Int32) : M ((Int32) ⊕ (Int32)) :=
  bn (gd (inR (x3 + (1 : Int32)) L)) fun _ =>
  bn (F_A_end (X ((x3 + (1 : Int32))).toNatClampNeg)) fun v1 =>
  bn (gd (inR (x3 + (1 : Int32)) L)) fun _ =>
  bn (F_R_end (X ((x3 + (1 : Int32))).toNatClampNeg)) fun v2 =>
  (if v1 = v2 then
    K_L_law_1533 L X x3
  else
    bn (gdZ (0 : Int32)) fun _ => rt (.inr (0 : Int32)))
set_option maxRecDepth 4000 in
theorem e_s_L_law_483 (f_A_act : Int32 → Int32 → Int32 → M Int32) (f_A_alias : Int32 → Int32 → Int32 → M Int32) (f_A_bed : Int32 → Int32 → M Int32) (f_A_beds : Int32 → M Int32) (f_A_birthdays : Int32 → Int32 → Int32 → M Int32) (f_A_book : Int32 → Int32 → M Int32) (f_A_boot : Int32 → M Int32) (f_A_box : Int32 → M Int32) (f_A_end : Int32 → M Int32) (f_A_fault : Int32 → M Int32) (f_A_feed : Int32 → Int32 → Int32 → Int32 → Int32 → M Int32) (f_A_game : Int32 → Int32 → Int32 → M Int32) (f_A_goes : Int32 → Int32 → M Int32) (f_A_hoop : Int32 → Int32 → Int32 → M Int32) (f_A_hours : Int32 → M Int32) (f_A_image : Int32 → M Int32) (f_A_keeps : Int32 → M Int32) (f_A_least : Int32 → M Int32) (f_A_letter : Int32 → Int32 → M Int32) (f_A_loan : Int32 → Int32 → Int32 → M Int32) (f_A_look : Int32 → M Int32) (f_A_named : Int32 → M Int32) (f_A_names : Int32 → M Int32) (f_A_net : Int32 → Int32 → M Int32) (f_A_notes : Int32 → M Int32) (f_A_of : Int32 → Int32 → M Int32) (f_A_pair : Int32 → Int32 → Int32 → M Int32) (f_A_person : Int32 → Int32 → M Int32) (f_A_persons : Int32 → Int32 → M Int32) (f_A_says : Int32 → Int32 → Int32 → M Int32) (f_A_set : Int32 → Int32 → Int32 → M Int32) (f_A_settled : Int32 → M Int32) (f_A_sighted : Int32 → Int32 → M Int32) (f_A_speakers : Int32 → M Int32) (f_A_state : Int32 → M Int32) (f_A_street : Int32 → Int32 → M Int32) (f_A_swings : Int32 → Int32 → M Int32) (f_A_text : Int32 → M Int32) (f_A_undo : M Int32) (f_A_vote : Int32 → M Int32) (f_A_who : Int32 → Int32 → M Int32) (f_R_act : Int32 → Int32 → Int32 → M Int32) (f_R_alias : Int32 → Int32 → Int32 → M Int32) (f_R_bed : Int32 → Int32 → M Int32) (f_R_beds : Int32 → M Int32) (f_R_birthdays : Int32 → Int32 → Int32 → M Int32) (f_R_book : Int32 → Int32 → M Int32) (f_R_boot : Int32 → M Int32) (f_R_box : Int32 → M Int32) (f_R_end : Int32 → M Int32) (f_R_fault : Int32 → M Int32) (f_R_feed : Int32 → Int32 → Int32 → Int32 → Int32 → M Int32) (f_R_game : Int32 → Int32 → Int32 → M Int32) (f_R_goes : Int32 → Int32 → M Int32) (f_R_hoop : Int32 → Int32 → Int32 → M Int32) (f_R_hours : Int32 → M Int32) (f_R_image : Int32 → M Int32) (f_R_keeps : Int32 → M Int32) (f_R_least : Int32 → M Int32) (f_R_letter : Int32 → Int32 → M Int32) (f_R_loan : Int32 → Int32 → Int32 → M Int32) (f_R_look : Int32 → M Int32) (f_R_named : Int32 → M Int32) (f_R_names : Int32 → M Int32) (f_R_net : Int32 → Int32 → M Int32) (f_R_notes : Int32 → M Int32) (f_R_of : Int32 → Int32 → M Int32) (f_R_pair : Int32 → Int32 → Int32 → M Int32) (f_R_person : Int32 → Int32 → M Int32) (f_R_persons : Int32 → Int32 → M Int32) (f_R_says : Int32 → Int32 → Int32 → M Int32) (f_R_set : Int32 → Int32 → Int32 → M Int32) (f_R_settled : Int32 → M Int32) (f_R_sighted : Int32 → Int32 → M Int32) (f_R_speakers : Int32 → M Int32) (f_R_state : Int32 → M Int32) (f_R_street : Int32 → Int32 → M Int32) (f_R_swings : Int32 → Int32 → M Int32) (f_R_text : Int32 → M Int32) (f_R_undo : M Int32) (f_R_vote : Int32 → M Int32) (f_R_who : Int32 → Int32 → M Int32) (k_1533 : Int32 → M ((Int32) ⊕ (Int32))) (x3 : Int32) : wf (β := (Int32) ⊕ (Int32)) L X q_L_law 2 (cs_L_law f_A_act f_A_alias f_A_bed f_A_beds f_A_birthdays f_A_book f_A_boot f_A_box f_A_end f_A_fault f_A_feed f_A_game f_A_goes f_A_hoop f_A_hours f_A_image f_A_keeps f_A_least f_A_letter f_A_loan f_A_look f_A_named f_A_names f_A_net f_A_notes f_A_of f_A_pair f_A_person f_A_persons f_A_says f_A_set f_A_settled f_A_sighted f_A_speakers f_A_state f_A_street f_A_swings f_A_text f_A_undo f_A_vote f_A_who f_R_act f_R_alias f_R_bed f_R_beds f_R_birthdays f_R_book f_R_boot f_R_box f_R_end f_R_fault f_R_feed f_R_game f_R_goes f_R_hoop f_R_hours f_R_image f_R_keeps f_R_least f_R_letter f_R_loan f_R_look f_R_named f_R_names f_R_net f_R_notes f_R_of f_R_pair f_R_person f_R_persons f_R_says f_R_set f_R_settled f_R_sighted f_R_speakers f_R_state f_R_street f_R_swings f_R_text f_R_undo f_R_vote f_R_who) [] [18, 212, 235, 268, 311, 354, 397, 420, 483, 506, 529, 552, 585, 618, 651, 684, 717, 740, 773, 806, 865, 888, 947, 970, 993, 1026, 1049, 1092, 1125, 1148, 1171, 1204, 1227, 1250, 1273, 1306, 1349, 1392, 1415, 1458, 1471, 1510, 1533] (fun pc ls st => mC (Nat.beq pc 1533) (mN st <| k_1533 x3) (fl)) (fun v => match v with | some (_, .int x) => rt (.inr x) | _ => fl) 1072 483 [(9997, .ref 1000000), (111, .ref 0), (112, .ref 207), (0, .int x3)] [] = (bn (gd (inR (x3 + (1 : Int32)) L)) fun _ =>
  bn (f_A_end (X ((x3 + (1 : Int32))).toNatClampNeg)) fun v1 =>
  bn (gd (inR (x3 + (1 : Int32)) L)) fun _ =>
  bn (f_R_end (X ((x3 + (1 : Int32))).toNatClampNeg)) fun v2 =>
  (if v1 = v2 then
    k_1533 x3
  else
    bn (gdZ (0 : Int32)) fun _ => rt (.inr (0 : Int32)))) := rfl
theorem s_L_law_483 {d : Nat} (L : Nat) (X : Nat → Int32) (hcs : AllS L X d (cs_L_law F_A_act F_A_alias F_A_bed F_A_beds F_A_birthdays F_A_book F_A_boot F_A_box F_A_end F_A_fault F_A_feed F_A_game F_A_goes F_A_hoop F_A_hours F_A_image F_A_keeps F_A_least F_A_letter F_A_loan F_A_look F_A_named F_A_names F_A_net F_A_notes F_A_of F_A_pair F_A_person F_A_persons F_A_says F_A_set F_A_settled F_A_sighted F_A_speakers F_A_state F_A_street F_A_swings F_A_text F_A_undo F_A_vote F_A_who F_R_act F_R_alias F_R_bed F_R_beds F_R_birthdays F_R_book F_R_boot F_R_box F_R_end F_R_fault F_R_feed F_R_game F_R_goes F_R_hoop F_R_hours F_R_image F_R_keeps F_R_least F_R_letter F_R_loan F_R_look F_R_named F_R_names F_R_net F_R_notes F_R_of F_R_pair F_R_person F_R_persons F_R_says F_R_set F_R_settled F_R_sighted F_R_speakers F_R_state F_R_street F_R_swings F_R_text F_R_undo F_R_vote F_R_who)) (x3 : Int32) {o : Option Value × PH} {Q : ((Int32) ⊕ (Int32)) → MI → Prop} (qb : ∀ y I, Q (.inl y) I → At L X (d + 1) 331 18 [(9997, .ref 1000000), (111, .ref 0), (112, .ref 207), (0, .int y)] [] I o) (qr : ∀ v I, Q (.inr v) I → o = (some (.int v), HH I)) (I : MI) (r : (Int32) ⊕ (Int32)) (I1 : MI) (h : K_L_law_483 L X x3 I = some (r, I1)) (hq : Q r I1) : At L X (d + 1) 331 483 [(9997, .ref 1000000), (111, .ref 0), (112, .ref 207), (0, .int x3)] [] I o := by
  refine wf_ok z_L_law hcs ?_ ?_ _ _ _ _ _ ⟨rfl, rfl, rfl, trivial, trivial⟩ trivial (unm_refl _ _) ((congrFun (e_s_L_law_483 (L := L) (X := X) F_A_act F_A_alias F_A_bed F_A_beds F_A_birthdays F_A_book F_A_boot F_A_box F_A_end F_A_fault F_A_feed F_A_game F_A_goes F_A_hoop F_A_hours F_A_image F_A_keeps F_A_least F_A_letter F_A_loan F_A_look F_A_named F_A_names F_A_net F_A_notes F_A_of F_A_pair F_A_person F_A_persons F_A_says F_A_set F_A_settled F_A_sighted F_A_speakers F_A_state F_A_street F_A_swings F_A_text F_A_undo F_A_vote F_A_who F_R_act F_R_alias F_R_bed F_R_beds F_R_birthdays F_R_book F_R_boot F_R_box F_R_end F_R_fault F_R_feed F_R_game F_R_goes F_R_hoop F_R_hours F_R_image F_R_keeps F_R_least F_R_letter F_R_loan F_R_look F_R_named F_R_names F_R_net F_R_notes F_R_of F_R_pair F_R_person F_R_persons F_R_says F_R_set F_R_settled F_R_sighted F_R_speakers F_R_state F_R_street F_R_swings F_R_text F_R_undo F_R_vote F_R_who (K_L_law_1533 L X) x3) I).trans h)
  · intro pc ls st I2 h1 h2 h3 h
    rcases mC_ok h with ⟨hb, h⟩ | ⟨_, h⟩
    · have e := Nat.eq_of_beq_eq_true hb
      subst e
      obtain ⟨hst, h⟩ := mN_ok h
      subst hst
      refine at_leaf (ls2 := [(9997, .ref 1000000), (111, .ref 0), (112, .ref 207), (0, .int x3)]) h3.1 ⟨Or.inr ⟨_, (h3.2 0 rfl).trans rfl⟩, Or.inr ⟨_, (h3.2 1 rfl).trans rfl⟩, Or.inr ⟨_, (h3.2 2 rfl).trans rfl⟩, Or.inr ⟨_, (h3.2 3 rfl).trans rfl⟩, trivial⟩ ?_
      exact s_L_law_1533 L X hcs x3 qb qr _ _ _ h hq
    cases h
  · intro v I2 _ h
    split at h
    · cases h; exact qr _ _ hq
    · cases h
def K_L_law_506 (L : Nat) (X : Nat → Int32) (x3 : Int32) : M ((Int32) ⊕ (Int32)) :=
  bn (gd (inR (x3 + (1 : Int32)) L)) fun _ =>
  bn (F_A_text (X ((x3 + (1 : Int32))).toNatClampNeg)) fun v1 =>
  bn (gd (inR (x3 + (1 : Int32)) L)) fun _ =>
  bn (F_R_text (X ((x3 + (1 : Int32))).toNatClampNeg)) fun v2 =>
  (if v1 = v2 then
    K_L_law_1533 L X x3
  else
    bn (gdZ (0 : Int32)) fun _ => rt (.inr (0 : Int32)))
set_option maxRecDepth 4000 in
theorem e_s_L_law_506 (f_A_act : Int32 → Int32 → Int32 → M Int32) (f_A_alias : Int32 → Int32 → Int32 → M Int32) (f_A_bed : Int32 → Int32 → M Int32) (f_A_beds : Int32 → M Int32) (f_A_birthdays : Int32 → Int32 → Int32 → M Int32) (f_A_book : Int32 → Int32 → M Int32) (f_A_boot : Int32 → M Int32) (f_A_box : Int32 → M Int32) (f_A_end : Int32 → M Int32) (f_A_fault : Int32 → M Int32) (f_A_feed : Int32 → Int32 → Int32 → Int32 → Int32 → M Int32) (f_A_game : Int32 → Int32 → Int32 → M Int32) (f_A_goes : Int32 → Int32 → M Int32) (f_A_hoop : Int32 → Int32 → Int32 → M Int32) (f_A_hours : Int32 → M Int32) (f_A_image : Int32 → M Int32) (f_A_keeps : Int32 → M Int32) (f_A_least : Int32 → M Int32) (f_A_letter : Int32 → Int32 → M Int32) (f_A_loan : Int32 → Int32 → Int32 → M Int32) (f_A_look : Int32 → M Int32) (f_A_named : Int32 → M Int32) (f_A_names : Int32 → M Int32) (f_A_net : Int32 → Int32 → M Int32) (f_A_notes : Int32 → M Int32) (f_A_of : Int32 → Int32 → M Int32) (f_A_pair : Int32 → Int32 → Int32 → M Int32) (f_A_person : Int32 → Int32 → M Int32) (f_A_persons : Int32 → Int32 → M Int32) (f_A_says : Int32 → Int32 → Int32 → M Int32) (f_A_set : Int32 → Int32 → Int32 → M Int32) (f_A_settled : Int32 → M Int32) (f_A_sighted : Int32 → Int32 → M Int32) (f_A_speakers : Int32 → M Int32) (f_A_state : Int32 → M Int32) (f_A_street : Int32 → Int32 → M Int32) (f_A_swings : Int32 → Int32 → M Int32) (f_A_text : Int32 → M Int32) (f_A_undo : M Int32) (f_A_vote : Int32 → M Int32) (f_A_who : Int32 → Int32 → M Int32) (f_R_act : Int32 → Int32 → Int32 → M Int32) (f_R_alias : Int32 → Int32 → Int32 → M Int32) (f_R_bed : Int32 → Int32 → M Int32) (f_R_beds : Int32 → M Int32) (f_R_birthdays : Int32 → Int32 → Int32 → M Int32) (f_R_book : Int32 → Int32 → M Int32) (f_R_boot : Int32 → M Int32) (f_R_box : Int32 → M Int32) (f_R_end : Int32 → M Int32) (f_R_fault : Int32 → M Int32) (f_R_feed : Int32 → Int32 → Int32 → Int32 → Int32 → M Int32) (f_R_game : Int32 → Int32 → Int32 → M Int32) (f_R_goes : Int32 → Int32 → M Int32) (f_R_hoop : Int32 → Int32 → Int32 → M Int32) (f_R_hours : Int32 → M Int32) (f_R_image : Int32 → M Int32) (f_R_keeps : Int32 → M Int32) (f_R_least : Int32 → M Int32) (f_R_letter : Int32 → Int32 → M Int32) (f_R_loan : Int32 → Int32 → Int32 → M Int32) (f_R_look : Int32 → M Int32) (f_R_named : Int32 → M Int32) (f_R_names : Int32 → M Int32) (f_R_net : Int32 → Int32 → M Int32) (f_R_notes : Int32 → M Int32) (f_R_of : Int32 → Int32 → M Int32) (f_R_pair : Int32 → Int32 → Int32 → M Int32) (f_R_person : Int32 → Int32 → M Int32) (f_R_persons : Int32 → Int32 → M Int32) (f_R_says : Int32 → Int32 → Int32 → M Int32) (f_R_set : Int32 → Int32 → Int32 → M Int32) (f_R_settled : Int32 → M Int32) (f_R_sighted : Int32 → Int32 → M Int32) (f_R_speakers : Int32 → M Int32) (f_R_state : Int32 → M Int32) (f_R_street : Int32 → Int32 → M Int32) (f_R_swings : Int32 → Int32 → M Int32) (f_R_text : Int32 → M Int32) (f_R_undo : M Int32) (f_R_vote : Int32 → M Int32) (f_R_who : Int32 → Int32 → M Int32) (k_1533 : Int32 → M ((Int32) ⊕ (Int32))) (x3 : Int32) : wf (β := (Int32) ⊕ (Int32)) L X q_L_law 2 (cs_L_law f_A_act f_A_alias f_A_bed f_A_beds f_A_birthdays f_A_book f_A_boot f_A_box f_A_end f_A_fault f_A_feed f_A_game f_A_goes f_A_hoop f_A_hours f_A_image f_A_keeps f_A_least f_A_letter f_A_loan f_A_look f_A_named f_A_names f_A_net f_A_notes f_A_of f_A_pair f_A_person f_A_persons f_A_says f_A_set f_A_settled f_A_sighted f_A_speakers f_A_state f_A_street f_A_swings f_A_text f_A_undo f_A_vote f_A_who f_R_act f_R_alias f_R_bed f_R_beds f_R_birthdays f_R_book f_R_boot f_R_box f_R_end f_R_fault f_R_feed f_R_game f_R_goes f_R_hoop f_R_hours f_R_image f_R_keeps f_R_least f_R_letter f_R_loan f_R_look f_R_named f_R_names f_R_net f_R_notes f_R_of f_R_pair f_R_person f_R_persons f_R_says f_R_set f_R_settled f_R_sighted f_R_speakers f_R_state f_R_street f_R_swings f_R_text f_R_undo f_R_vote f_R_who) [] [18, 212, 235, 268, 311, 354, 397, 420, 483, 506, 529, 552, 585, 618, 651, 684, 717, 740, 773, 806, 865, 888, 947, 970, 993, 1026, 1049, 1092, 1125, 1148, 1171, 1204, 1227, 1250, 1273, 1306, 1349, 1392, 1415, 1458, 1471, 1510, 1533] (fun pc ls st => mC (Nat.beq pc 1533) (mN st <| k_1533 x3) (fl)) (fun v => match v with | some (_, .int x) => rt (.inr x) | _ => fl) 1072 506 [(9997, .ref 1000000), (111, .ref 0), (112, .ref 207), (0, .int x3)] [] = (bn (gd (inR (x3 + (1 : Int32)) L)) fun _ =>
  bn (f_A_text (X ((x3 + (1 : Int32))).toNatClampNeg)) fun v1 =>
  bn (gd (inR (x3 + (1 : Int32)) L)) fun _ =>
  bn (f_R_text (X ((x3 + (1 : Int32))).toNatClampNeg)) fun v2 =>
  (if v1 = v2 then
    k_1533 x3
  else
    bn (gdZ (0 : Int32)) fun _ => rt (.inr (0 : Int32)))) := rfl
theorem s_L_law_506 {d : Nat} (L : Nat) (X : Nat → Int32) (hcs : AllS L X d (cs_L_law F_A_act F_A_alias F_A_bed F_A_beds F_A_birthdays F_A_book F_A_boot F_A_box F_A_end F_A_fault F_A_feed F_A_game F_A_goes F_A_hoop F_A_hours F_A_image F_A_keeps F_A_least F_A_letter F_A_loan F_A_look F_A_named F_A_names F_A_net F_A_notes F_A_of F_A_pair F_A_person F_A_persons F_A_says F_A_set F_A_settled F_A_sighted F_A_speakers F_A_state F_A_street F_A_swings F_A_text F_A_undo F_A_vote F_A_who F_R_act F_R_alias F_R_bed F_R_beds F_R_birthdays F_R_book F_R_boot F_R_box F_R_end F_R_fault F_R_feed F_R_game F_R_goes F_R_hoop F_R_hours F_R_image F_R_keeps F_R_least F_R_letter F_R_loan F_R_look F_R_named F_R_names F_R_net F_R_notes F_R_of F_R_pair F_R_person F_R_persons F_R_says F_R_set F_R_settled F_R_sighted F_R_speakers F_R_state F_R_street F_R_swings F_R_text F_R_undo F_R_vote F_R_who)) (x3 : Int32) {o : Option Value × PH} {Q : ((Int32) ⊕ (Int32)) → MI → Prop} (qb : ∀ y I, Q (.inl y) I → At L X (d + 1) 331 18 [(9997, .ref 1000000), (111, .ref 0), (112, .ref 207), (0, .int y)] [] I o) (qr : ∀ v I, Q (.inr v) I → o = (some (.int v), HH I)) (I : MI) (r : (Int32) ⊕ (Int32)) (I1 : MI) (h : K_L_law_506 L X x3 I = some (r, I1)) (hq : Q r I1) : At L X (d + 1) 331 506 [(9997, .ref 1000000), (111, .ref 0), (112, .ref 207), (0, .int x3)] [] I o := by
  refine wf_ok z_L_law hcs ?_ ?_ _ _ _ _ _ ⟨rfl, rfl, rfl, trivial, trivial⟩ trivial (unm_refl _ _) ((congrFun (e_s_L_law_506 (L := L) (X := X) F_A_act F_A_alias F_A_bed F_A_beds F_A_birthdays F_A_book F_A_boot F_A_box F_A_end F_A_fault F_A_feed F_A_game F_A_goes F_A_hoop F_A_hours F_A_image F_A_keeps F_A_least F_A_letter F_A_loan F_A_look F_A_named F_A_names F_A_net F_A_notes F_A_of F_A_pair F_A_person F_A_persons F_A_says F_A_set F_A_settled F_A_sighted F_A_speakers F_A_state F_A_street F_A_swings F_A_text F_A_undo F_A_vote F_A_who F_R_act F_R_alias F_R_bed F_R_beds F_R_birthdays F_R_book F_R_boot F_R_box F_R_end F_R_fault F_R_feed F_R_game F_R_goes F_R_hoop F_R_hours F_R_image F_R_keeps F_R_least F_R_letter F_R_loan F_R_look F_R_named F_R_names F_R_net F_R_notes F_R_of F_R_pair F_R_person F_R_persons F_R_says F_R_set F_R_settled F_R_sighted F_R_speakers F_R_state F_R_street F_R_swings F_R_text F_R_undo F_R_vote F_R_who (K_L_law_1533 L X) x3) I).trans h)
  · intro pc ls st I2 h1 h2 h3 h
    rcases mC_ok h with ⟨hb, h⟩ | ⟨_, h⟩
    · have e := Nat.eq_of_beq_eq_true hb
      subst e
      obtain ⟨hst, h⟩ := mN_ok h
      subst hst
      refine at_leaf (ls2 := [(9997, .ref 1000000), (111, .ref 0), (112, .ref 207), (0, .int x3)]) h3.1 ⟨Or.inr ⟨_, (h3.2 0 rfl).trans rfl⟩, Or.inr ⟨_, (h3.2 1 rfl).trans rfl⟩, Or.inr ⟨_, (h3.2 2 rfl).trans rfl⟩, Or.inr ⟨_, (h3.2 3 rfl).trans rfl⟩, trivial⟩ ?_
      exact s_L_law_1533 L X hcs x3 qb qr _ _ _ h hq
    cases h
  · intro v I2 _ h
    split at h
    · cases h; exact qr _ _ hq
    · cases h
def K_L_law_529 (L : Nat) (X : Nat → Int32) (x3 : Int32) : M ((Int32) ⊕ (Int32)) :=
  bn (gd (inR (x3 + (1 : Int32)) L)) fun _ =>
  bn (F_A_fault (X ((x3 + (1 : Int32))).toNatClampNeg)) fun v1 =>
  bn (gd (inR (x3 + (1 : Int32)) L)) fun _ =>
  bn (F_R_fault (X ((x3 + (1 : Int32))).toNatClampNeg)) fun v2 =>
  (if v1 = v2 then
    K_L_law_1533 L X x3
  else
    bn (gdZ (0 : Int32)) fun _ => rt (.inr (0 : Int32)))
set_option maxRecDepth 4000 in
theorem e_s_L_law_529 (f_A_act : Int32 → Int32 → Int32 → M Int32) (f_A_alias : Int32 → Int32 → Int32 → M Int32) (f_A_bed : Int32 → Int32 → M Int32) (f_A_beds : Int32 → M Int32) (f_A_birthdays : Int32 → Int32 → Int32 → M Int32) (f_A_book : Int32 → Int32 → M Int32) (f_A_boot : Int32 → M Int32) (f_A_box : Int32 → M Int32) (f_A_end : Int32 → M Int32) (f_A_fault : Int32 → M Int32) (f_A_feed : Int32 → Int32 → Int32 → Int32 → Int32 → M Int32) (f_A_game : Int32 → Int32 → Int32 → M Int32) (f_A_goes : Int32 → Int32 → M Int32) (f_A_hoop : Int32 → Int32 → Int32 → M Int32) (f_A_hours : Int32 → M Int32) (f_A_image : Int32 → M Int32) (f_A_keeps : Int32 → M Int32) (f_A_least : Int32 → M Int32) (f_A_letter : Int32 → Int32 → M Int32) (f_A_loan : Int32 → Int32 → Int32 → M Int32) (f_A_look : Int32 → M Int32) (f_A_named : Int32 → M Int32) (f_A_names : Int32 → M Int32) (f_A_net : Int32 → Int32 → M Int32) (f_A_notes : Int32 → M Int32) (f_A_of : Int32 → Int32 → M Int32) (f_A_pair : Int32 → Int32 → Int32 → M Int32) (f_A_person : Int32 → Int32 → M Int32) (f_A_persons : Int32 → Int32 → M Int32) (f_A_says : Int32 → Int32 → Int32 → M Int32) (f_A_set : Int32 → Int32 → Int32 → M Int32) (f_A_settled : Int32 → M Int32) (f_A_sighted : Int32 → Int32 → M Int32) (f_A_speakers : Int32 → M Int32) (f_A_state : Int32 → M Int32) (f_A_street : Int32 → Int32 → M Int32) (f_A_swings : Int32 → Int32 → M Int32) (f_A_text : Int32 → M Int32) (f_A_undo : M Int32) (f_A_vote : Int32 → M Int32) (f_A_who : Int32 → Int32 → M Int32) (f_R_act : Int32 → Int32 → Int32 → M Int32) (f_R_alias : Int32 → Int32 → Int32 → M Int32) (f_R_bed : Int32 → Int32 → M Int32) (f_R_beds : Int32 → M Int32) (f_R_birthdays : Int32 → Int32 → Int32 → M Int32) (f_R_book : Int32 → Int32 → M Int32) (f_R_boot : Int32 → M Int32) (f_R_box : Int32 → M Int32) (f_R_end : Int32 → M Int32) (f_R_fault : Int32 → M Int32) (f_R_feed : Int32 → Int32 → Int32 → Int32 → Int32 → M Int32) (f_R_game : Int32 → Int32 → Int32 → M Int32) (f_R_goes : Int32 → Int32 → M Int32) (f_R_hoop : Int32 → Int32 → Int32 → M Int32) (f_R_hours : Int32 → M Int32) (f_R_image : Int32 → M Int32) (f_R_keeps : Int32 → M Int32) (f_R_least : Int32 → M Int32) (f_R_letter : Int32 → Int32 → M Int32) (f_R_loan : Int32 → Int32 → Int32 → M Int32) (f_R_look : Int32 → M Int32) (f_R_named : Int32 → M Int32) (f_R_names : Int32 → M Int32) (f_R_net : Int32 → Int32 → M Int32) (f_R_notes : Int32 → M Int32) (f_R_of : Int32 → Int32 → M Int32) (f_R_pair : Int32 → Int32 → Int32 → M Int32) (f_R_person : Int32 → Int32 → M Int32) (f_R_persons : Int32 → Int32 → M Int32) (f_R_says : Int32 → Int32 → Int32 → M Int32) (f_R_set : Int32 → Int32 → Int32 → M Int32) (f_R_settled : Int32 → M Int32) (f_R_sighted : Int32 → Int32 → M Int32) (f_R_speakers : Int32 → M Int32) (f_R_state : Int32 → M Int32) (f_R_street : Int32 → Int32 → M Int32) (f_R_swings : Int32 → Int32 → M Int32) (f_R_text : Int32 → M Int32) (f_R_undo : M Int32) (f_R_vote : Int32 → M Int32) (f_R_who : Int32 → Int32 → M Int32) (k_1533 : Int32 → M ((Int32) ⊕ (Int32))) (x3 : Int32) : wf (β := (Int32) ⊕ (Int32)) L X q_L_law 2 (cs_L_law f_A_act f_A_alias f_A_bed f_A_beds f_A_birthdays f_A_book f_A_boot f_A_box f_A_end f_A_fault f_A_feed f_A_game f_A_goes f_A_hoop f_A_hours f_A_image f_A_keeps f_A_least f_A_letter f_A_loan f_A_look f_A_named f_A_names f_A_net f_A_notes f_A_of f_A_pair f_A_person f_A_persons f_A_says f_A_set f_A_settled f_A_sighted f_A_speakers f_A_state f_A_street f_A_swings f_A_text f_A_undo f_A_vote f_A_who f_R_act f_R_alias f_R_bed f_R_beds f_R_birthdays f_R_book f_R_boot f_R_box f_R_end f_R_fault f_R_feed f_R_game f_R_goes f_R_hoop f_R_hours f_R_image f_R_keeps f_R_least f_R_letter f_R_loan f_R_look f_R_named f_R_names f_R_net f_R_notes f_R_of f_R_pair f_R_person f_R_persons f_R_says f_R_set f_R_settled f_R_sighted f_R_speakers f_R_state f_R_street f_R_swings f_R_text f_R_undo f_R_vote f_R_who) [] [18, 212, 235, 268, 311, 354, 397, 420, 483, 506, 529, 552, 585, 618, 651, 684, 717, 740, 773, 806, 865, 888, 947, 970, 993, 1026, 1049, 1092, 1125, 1148, 1171, 1204, 1227, 1250, 1273, 1306, 1349, 1392, 1415, 1458, 1471, 1510, 1533] (fun pc ls st => mC (Nat.beq pc 1533) (mN st <| k_1533 x3) (fl)) (fun v => match v with | some (_, .int x) => rt (.inr x) | _ => fl) 1072 529 [(9997, .ref 1000000), (111, .ref 0), (112, .ref 207), (0, .int x3)] [] = (bn (gd (inR (x3 + (1 : Int32)) L)) fun _ =>
  bn (f_A_fault (X ((x3 + (1 : Int32))).toNatClampNeg)) fun v1 =>
  bn (gd (inR (x3 + (1 : Int32)) L)) fun _ =>
  bn (f_R_fault (X ((x3 + (1 : Int32))).toNatClampNeg)) fun v2 =>
  (if v1 = v2 then
    k_1533 x3
  else
    bn (gdZ (0 : Int32)) fun _ => rt (.inr (0 : Int32)))) := rfl
theorem s_L_law_529 {d : Nat} (L : Nat) (X : Nat → Int32) (hcs : AllS L X d (cs_L_law F_A_act F_A_alias F_A_bed F_A_beds F_A_birthdays F_A_book F_A_boot F_A_box F_A_end F_A_fault F_A_feed F_A_game F_A_goes F_A_hoop F_A_hours F_A_image F_A_keeps F_A_least F_A_letter F_A_loan F_A_look F_A_named F_A_names F_A_net F_A_notes F_A_of F_A_pair F_A_person F_A_persons F_A_says F_A_set F_A_settled F_A_sighted F_A_speakers F_A_state F_A_street F_A_swings F_A_text F_A_undo F_A_vote F_A_who F_R_act F_R_alias F_R_bed F_R_beds F_R_birthdays F_R_book F_R_boot F_R_box F_R_end F_R_fault F_R_feed F_R_game F_R_goes F_R_hoop F_R_hours F_R_image F_R_keeps F_R_least F_R_letter F_R_loan F_R_look F_R_named F_R_names F_R_net F_R_notes F_R_of F_R_pair F_R_person F_R_persons F_R_says F_R_set F_R_settled F_R_sighted F_R_speakers F_R_state F_R_street F_R_swings F_R_text F_R_undo F_R_vote F_R_who)) (x3 : Int32) {o : Option Value × PH} {Q : ((Int32) ⊕ (Int32)) → MI → Prop} (qb : ∀ y I, Q (.inl y) I → At L X (d + 1) 331 18 [(9997, .ref 1000000), (111, .ref 0), (112, .ref 207), (0, .int y)] [] I o) (qr : ∀ v I, Q (.inr v) I → o = (some (.int v), HH I)) (I : MI) (r : (Int32) ⊕ (Int32)) (I1 : MI) (h : K_L_law_529 L X x3 I = some (r, I1)) (hq : Q r I1) : At L X (d + 1) 331 529 [(9997, .ref 1000000), (111, .ref 0), (112, .ref 207), (0, .int x3)] [] I o := by
  refine wf_ok z_L_law hcs ?_ ?_ _ _ _ _ _ ⟨rfl, rfl, rfl, trivial, trivial⟩ trivial (unm_refl _ _) ((congrFun (e_s_L_law_529 (L := L) (X := X) F_A_act F_A_alias F_A_bed F_A_beds F_A_birthdays F_A_book F_A_boot F_A_box F_A_end F_A_fault F_A_feed F_A_game F_A_goes F_A_hoop F_A_hours F_A_image F_A_keeps F_A_least F_A_letter F_A_loan F_A_look F_A_named F_A_names F_A_net F_A_notes F_A_of F_A_pair F_A_person F_A_persons F_A_says F_A_set F_A_settled F_A_sighted F_A_speakers F_A_state F_A_street F_A_swings F_A_text F_A_undo F_A_vote F_A_who F_R_act F_R_alias F_R_bed F_R_beds F_R_birthdays F_R_book F_R_boot F_R_box F_R_end F_R_fault F_R_feed F_R_game F_R_goes F_R_hoop F_R_hours F_R_image F_R_keeps F_R_least F_R_letter F_R_loan F_R_look F_R_named F_R_names F_R_net F_R_notes F_R_of F_R_pair F_R_person F_R_persons F_R_says F_R_set F_R_settled F_R_sighted F_R_speakers F_R_state F_R_street F_R_swings F_R_text F_R_undo F_R_vote F_R_who (K_L_law_1533 L X) x3) I).trans h)
  · intro pc ls st I2 h1 h2 h3 h
    rcases mC_ok h with ⟨hb, h⟩ | ⟨_, h⟩
    · have e := Nat.eq_of_beq_eq_true hb
      subst e
      obtain ⟨hst, h⟩ := mN_ok h
      subst hst
      refine at_leaf (ls2 := [(9997, .ref 1000000), (111, .ref 0), (112, .ref 207), (0, .int x3)]) h3.1 ⟨Or.inr ⟨_, (h3.2 0 rfl).trans rfl⟩, Or.inr ⟨_, (h3.2 1 rfl).trans rfl⟩, Or.inr ⟨_, (h3.2 2 rfl).trans rfl⟩, Or.inr ⟨_, (h3.2 3 rfl).trans rfl⟩, trivial⟩ ?_
      exact s_L_law_1533 L X hcs x3 qb qr _ _ _ h hq
    cases h
  · intro v I2 _ h
    split at h
    · cases h; exact qr _ _ hq
    · cases h
def K_L_law_552 (L : Nat) (X : Nat → Int32) (x3 : Int32) : M ((Int32) ⊕ (Int32)) :=
  bn (gd (inR (x3 + (1 : Int32)) L)) fun _ =>
  bn (gd (inR (x3 + (2 : Int32)) L)) fun _ =>
  bn (F_A_of (X ((x3 + (1 : Int32))).toNatClampNeg) (X ((x3 + (2 : Int32))).toNatClampNeg)) fun v1 =>
  bn (gd (inR (x3 + (1 : Int32)) L)) fun _ =>
  bn (gd (inR (x3 + (2 : Int32)) L)) fun _ =>
  bn (F_R_of (X ((x3 + (1 : Int32))).toNatClampNeg) (X ((x3 + (2 : Int32))).toNatClampNeg)) fun v2 =>
  (if v1 = v2 then
    K_L_law_1533 L X x3
  else
    bn (gdZ (0 : Int32)) fun _ => rt (.inr (0 : Int32)))
set_option maxRecDepth 4000 in
theorem e_s_L_law_552 (f_A_act : Int32 → Int32 → Int32 → M Int32) (f_A_alias : Int32 → Int32 → Int32 → M Int32) (f_A_bed : Int32 → Int32 → M Int32) (f_A_beds : Int32 → M Int32) (f_A_birthdays : Int32 → Int32 → Int32 → M Int32) (f_A_book : Int32 → Int32 → M Int32) (f_A_boot : Int32 → M Int32) (f_A_box : Int32 → M Int32) (f_A_end : Int32 → M Int32) (f_A_fault : Int32 → M Int32) (f_A_feed : Int32 → Int32 → Int32 → Int32 → Int32 → M Int32) (f_A_game : Int32 → Int32 → Int32 → M Int32) (f_A_goes : Int32 → Int32 → M Int32) (f_A_hoop : Int32 → Int32 → Int32 → M Int32) (f_A_hours : Int32 → M Int32) (f_A_image : Int32 → M Int32) (f_A_keeps : Int32 → M Int32) (f_A_least : Int32 → M Int32) (f_A_letter : Int32 → Int32 → M Int32) (f_A_loan : Int32 → Int32 → Int32 → M Int32) (f_A_look : Int32 → M Int32) (f_A_named : Int32 → M Int32) (f_A_names : Int32 → M Int32) (f_A_net : Int32 → Int32 → M Int32) (f_A_notes : Int32 → M Int32) (f_A_of : Int32 → Int32 → M Int32) (f_A_pair : Int32 → Int32 → Int32 → M Int32) (f_A_person : Int32 → Int32 → M Int32) (f_A_persons : Int32 → Int32 → M Int32) (f_A_says : Int32 → Int32 → Int32 → M Int32) (f_A_set : Int32 → Int32 → Int32 → M Int32) (f_A_settled : Int32 → M Int32) (f_A_sighted : Int32 → Int32 → M Int32) (f_A_speakers : Int32 → M Int32) (f_A_state : Int32 → M Int32) (f_A_street : Int32 → Int32 → M Int32) (f_A_swings : Int32 → Int32 → M Int32) (f_A_text : Int32 → M Int32) (f_A_undo : M Int32) (f_A_vote : Int32 → M Int32) (f_A_who : Int32 → Int32 → M Int32) (f_R_act : Int32 → Int32 → Int32 → M Int32) (f_R_alias : Int32 → Int32 → Int32 → M Int32) (f_R_bed : Int32 → Int32 → M Int32) (f_R_beds : Int32 → M Int32) (f_R_birthdays : Int32 → Int32 → Int32 → M Int32) (f_R_book : Int32 → Int32 → M Int32) (f_R_boot : Int32 → M Int32) (f_R_box : Int32 → M Int32) (f_R_end : Int32 → M Int32) (f_R_fault : Int32 → M Int32) (f_R_feed : Int32 → Int32 → Int32 → Int32 → Int32 → M Int32) (f_R_game : Int32 → Int32 → Int32 → M Int32) (f_R_goes : Int32 → Int32 → M Int32) (f_R_hoop : Int32 → Int32 → Int32 → M Int32) (f_R_hours : Int32 → M Int32) (f_R_image : Int32 → M Int32) (f_R_keeps : Int32 → M Int32) (f_R_least : Int32 → M Int32) (f_R_letter : Int32 → Int32 → M Int32) (f_R_loan : Int32 → Int32 → Int32 → M Int32) (f_R_look : Int32 → M Int32) (f_R_named : Int32 → M Int32) (f_R_names : Int32 → M Int32) (f_R_net : Int32 → Int32 → M Int32) (f_R_notes : Int32 → M Int32) (f_R_of : Int32 → Int32 → M Int32) (f_R_pair : Int32 → Int32 → Int32 → M Int32) (f_R_person : Int32 → Int32 → M Int32) (f_R_persons : Int32 → Int32 → M Int32) (f_R_says : Int32 → Int32 → Int32 → M Int32) (f_R_set : Int32 → Int32 → Int32 → M Int32) (f_R_settled : Int32 → M Int32) (f_R_sighted : Int32 → Int32 → M Int32) (f_R_speakers : Int32 → M Int32) (f_R_state : Int32 → M Int32) (f_R_street : Int32 → Int32 → M Int32) (f_R_swings : Int32 → Int32 → M Int32) (f_R_text : Int32 → M Int32) (f_R_undo : M Int32) (f_R_vote : Int32 → M Int32) (f_R_who : Int32 → Int32 → M Int32) (k_1533 : Int32 → M ((Int32) ⊕ (Int32))) (x3 : Int32) : wf (β := (Int32) ⊕ (Int32)) L X q_L_law 2 (cs_L_law f_A_act f_A_alias f_A_bed f_A_beds f_A_birthdays f_A_book f_A_boot f_A_box f_A_end f_A_fault f_A_feed f_A_game f_A_goes f_A_hoop f_A_hours f_A_image f_A_keeps f_A_least f_A_letter f_A_loan f_A_look f_A_named f_A_names f_A_net f_A_notes f_A_of f_A_pair f_A_person f_A_persons f_A_says f_A_set f_A_settled f_A_sighted f_A_speakers f_A_state f_A_street f_A_swings f_A_text f_A_undo f_A_vote f_A_who f_R_act f_R_alias f_R_bed f_R_beds f_R_birthdays f_R_book f_R_boot f_R_box f_R_end f_R_fault f_R_feed f_R_game f_R_goes f_R_hoop f_R_hours f_R_image f_R_keeps f_R_least f_R_letter f_R_loan f_R_look f_R_named f_R_names f_R_net f_R_notes f_R_of f_R_pair f_R_person f_R_persons f_R_says f_R_set f_R_settled f_R_sighted f_R_speakers f_R_state f_R_street f_R_swings f_R_text f_R_undo f_R_vote f_R_who) [] [18, 212, 235, 268, 311, 354, 397, 420, 483, 506, 529, 552, 585, 618, 651, 684, 717, 740, 773, 806, 865, 888, 947, 970, 993, 1026, 1049, 1092, 1125, 1148, 1171, 1204, 1227, 1250, 1273, 1306, 1349, 1392, 1415, 1458, 1471, 1510, 1533] (fun pc ls st => mC (Nat.beq pc 1533) (mN st <| k_1533 x3) (fl)) (fun v => match v with | some (_, .int x) => rt (.inr x) | _ => fl) 1072 552 [(9997, .ref 1000000), (111, .ref 0), (112, .ref 207), (0, .int x3)] [] = (bn (gd (inR (x3 + (1 : Int32)) L)) fun _ =>
  bn (gd (inR (x3 + (2 : Int32)) L)) fun _ =>
  bn (f_A_of (X ((x3 + (1 : Int32))).toNatClampNeg) (X ((x3 + (2 : Int32))).toNatClampNeg)) fun v1 =>
  bn (gd (inR (x3 + (1 : Int32)) L)) fun _ =>
  bn (gd (inR (x3 + (2 : Int32)) L)) fun _ =>
  bn (f_R_of (X ((x3 + (1 : Int32))).toNatClampNeg) (X ((x3 + (2 : Int32))).toNatClampNeg)) fun v2 =>
  (if v1 = v2 then
    k_1533 x3
  else
    bn (gdZ (0 : Int32)) fun _ => rt (.inr (0 : Int32)))) := rfl
theorem s_L_law_552 {d : Nat} (L : Nat) (X : Nat → Int32) (hcs : AllS L X d (cs_L_law F_A_act F_A_alias F_A_bed F_A_beds F_A_birthdays F_A_book F_A_boot F_A_box F_A_end F_A_fault F_A_feed F_A_game F_A_goes F_A_hoop F_A_hours F_A_image F_A_keeps F_A_least F_A_letter F_A_loan F_A_look F_A_named F_A_names F_A_net F_A_notes F_A_of F_A_pair F_A_person F_A_persons F_A_says F_A_set F_A_settled F_A_sighted F_A_speakers F_A_state F_A_street F_A_swings F_A_text F_A_undo F_A_vote F_A_who F_R_act F_R_alias F_R_bed F_R_beds F_R_birthdays F_R_book F_R_boot F_R_box F_R_end F_R_fault F_R_feed F_R_game F_R_goes F_R_hoop F_R_hours F_R_image F_R_keeps F_R_least F_R_letter F_R_loan F_R_look F_R_named F_R_names F_R_net F_R_notes F_R_of F_R_pair F_R_person F_R_persons F_R_says F_R_set F_R_settled F_R_sighted F_R_speakers F_R_state F_R_street F_R_swings F_R_text F_R_undo F_R_vote F_R_who)) (x3 : Int32) {o : Option Value × PH} {Q : ((Int32) ⊕ (Int32)) → MI → Prop} (qb : ∀ y I, Q (.inl y) I → At L X (d + 1) 331 18 [(9997, .ref 1000000), (111, .ref 0), (112, .ref 207), (0, .int y)] [] I o) (qr : ∀ v I, Q (.inr v) I → o = (some (.int v), HH I)) (I : MI) (r : (Int32) ⊕ (Int32)) (I1 : MI) (h : K_L_law_552 L X x3 I = some (r, I1)) (hq : Q r I1) : At L X (d + 1) 331 552 [(9997, .ref 1000000), (111, .ref 0), (112, .ref 207), (0, .int x3)] [] I o := by
  refine wf_ok z_L_law hcs ?_ ?_ _ _ _ _ _ ⟨rfl, rfl, rfl, trivial, trivial⟩ trivial (unm_refl _ _) ((congrFun (e_s_L_law_552 (L := L) (X := X) F_A_act F_A_alias F_A_bed F_A_beds F_A_birthdays F_A_book F_A_boot F_A_box F_A_end F_A_fault F_A_feed F_A_game F_A_goes F_A_hoop F_A_hours F_A_image F_A_keeps F_A_least F_A_letter F_A_loan F_A_look F_A_named F_A_names F_A_net F_A_notes F_A_of F_A_pair F_A_person F_A_persons F_A_says F_A_set F_A_settled F_A_sighted F_A_speakers F_A_state F_A_street F_A_swings F_A_text F_A_undo F_A_vote F_A_who F_R_act F_R_alias F_R_bed F_R_beds F_R_birthdays F_R_book F_R_boot F_R_box F_R_end F_R_fault F_R_feed F_R_game F_R_goes F_R_hoop F_R_hours F_R_image F_R_keeps F_R_least F_R_letter F_R_loan F_R_look F_R_named F_R_names F_R_net F_R_notes F_R_of F_R_pair F_R_person F_R_persons F_R_says F_R_set F_R_settled F_R_sighted F_R_speakers F_R_state F_R_street F_R_swings F_R_text F_R_undo F_R_vote F_R_who (K_L_law_1533 L X) x3) I).trans h)
  · intro pc ls st I2 h1 h2 h3 h
    rcases mC_ok h with ⟨hb, h⟩ | ⟨_, h⟩
    · have e := Nat.eq_of_beq_eq_true hb
      subst e
      obtain ⟨hst, h⟩ := mN_ok h
      subst hst
      refine at_leaf (ls2 := [(9997, .ref 1000000), (111, .ref 0), (112, .ref 207), (0, .int x3)]) h3.1 ⟨Or.inr ⟨_, (h3.2 0 rfl).trans rfl⟩, Or.inr ⟨_, (h3.2 1 rfl).trans rfl⟩, Or.inr ⟨_, (h3.2 2 rfl).trans rfl⟩, Or.inr ⟨_, (h3.2 3 rfl).trans rfl⟩, trivial⟩ ?_
      exact s_L_law_1533 L X hcs x3 qb qr _ _ _ h hq
    cases h
  · intro v I2 _ h
    split at h
    · cases h; exact qr _ _ hq
    · cases h
def K_L_law_585 (L : Nat) (X : Nat → Int32) (x3 : Int32) : M ((Int32) ⊕ (Int32)) :=
  bn (gd (inR (x3 + (1 : Int32)) L)) fun _ =>
  bn (gd (inR (x3 + (2 : Int32)) L)) fun _ =>
  bn (F_A_who (X ((x3 + (1 : Int32))).toNatClampNeg) (X ((x3 + (2 : Int32))).toNatClampNeg)) fun v1 =>
  bn (gd (inR (x3 + (1 : Int32)) L)) fun _ =>
  bn (gd (inR (x3 + (2 : Int32)) L)) fun _ =>
  bn (F_R_who (X ((x3 + (1 : Int32))).toNatClampNeg) (X ((x3 + (2 : Int32))).toNatClampNeg)) fun v2 =>
  (if v1 = v2 then
    K_L_law_1533 L X x3
  else
    bn (gdZ (0 : Int32)) fun _ => rt (.inr (0 : Int32)))
set_option maxRecDepth 4000 in
theorem e_s_L_law_585 (f_A_act : Int32 → Int32 → Int32 → M Int32) (f_A_alias : Int32 → Int32 → Int32 → M Int32) (f_A_bed : Int32 → Int32 → M Int32) (f_A_beds : Int32 → M Int32) (f_A_birthdays : Int32 → Int32 → Int32 → M Int32) (f_A_book : Int32 → Int32 → M Int32) (f_A_boot : Int32 → M Int32) (f_A_box : Int32 → M Int32) (f_A_end : Int32 → M Int32) (f_A_fault : Int32 → M Int32) (f_A_feed : Int32 → Int32 → Int32 → Int32 → Int32 → M Int32) (f_A_game : Int32 → Int32 → Int32 → M Int32) (f_A_goes : Int32 → Int32 → M Int32) (f_A_hoop : Int32 → Int32 → Int32 → M Int32) (f_A_hours : Int32 → M Int32) (f_A_image : Int32 → M Int32) (f_A_keeps : Int32 → M Int32) (f_A_least : Int32 → M Int32) (f_A_letter : Int32 → Int32 → M Int32) (f_A_loan : Int32 → Int32 → Int32 → M Int32) (f_A_look : Int32 → M Int32) (f_A_named : Int32 → M Int32) (f_A_names : Int32 → M Int32) (f_A_net : Int32 → Int32 → M Int32) (f_A_notes : Int32 → M Int32) (f_A_of : Int32 → Int32 → M Int32) (f_A_pair : Int32 → Int32 → Int32 → M Int32) (f_A_person : Int32 → Int32 → M Int32) (f_A_persons : Int32 → Int32 → M Int32) (f_A_says : Int32 → Int32 → Int32 → M Int32) (f_A_set : Int32 → Int32 → Int32 → M Int32) (f_A_settled : Int32 → M Int32) (f_A_sighted : Int32 → Int32 → M Int32) (f_A_speakers : Int32 → M Int32) (f_A_state : Int32 → M Int32) (f_A_street : Int32 → Int32 → M Int32) (f_A_swings : Int32 → Int32 → M Int32) (f_A_text : Int32 → M Int32) (f_A_undo : M Int32) (f_A_vote : Int32 → M Int32) (f_A_who : Int32 → Int32 → M Int32) (f_R_act : Int32 → Int32 → Int32 → M Int32) (f_R_alias : Int32 → Int32 → Int32 → M Int32) (f_R_bed : Int32 → Int32 → M Int32) (f_R_beds : Int32 → M Int32) (f_R_birthdays : Int32 → Int32 → Int32 → M Int32) (f_R_book : Int32 → Int32 → M Int32) (f_R_boot : Int32 → M Int32) (f_R_box : Int32 → M Int32) (f_R_end : Int32 → M Int32) (f_R_fault : Int32 → M Int32) (f_R_feed : Int32 → Int32 → Int32 → Int32 → Int32 → M Int32) (f_R_game : Int32 → Int32 → Int32 → M Int32) (f_R_goes : Int32 → Int32 → M Int32) (f_R_hoop : Int32 → Int32 → Int32 → M Int32) (f_R_hours : Int32 → M Int32) (f_R_image : Int32 → M Int32) (f_R_keeps : Int32 → M Int32) (f_R_least : Int32 → M Int32) (f_R_letter : Int32 → Int32 → M Int32) (f_R_loan : Int32 → Int32 → Int32 → M Int32) (f_R_look : Int32 → M Int32) (f_R_named : Int32 → M Int32) (f_R_names : Int32 → M Int32) (f_R_net : Int32 → Int32 → M Int32) (f_R_notes : Int32 → M Int32) (f_R_of : Int32 → Int32 → M Int32) (f_R_pair : Int32 → Int32 → Int32 → M Int32) (f_R_person : Int32 → Int32 → M Int32) (f_R_persons : Int32 → Int32 → M Int32) (f_R_says : Int32 → Int32 → Int32 → M Int32) (f_R_set : Int32 → Int32 → Int32 → M Int32) (f_R_settled : Int32 → M Int32) (f_R_sighted : Int32 → Int32 → M Int32) (f_R_speakers : Int32 → M Int32) (f_R_state : Int32 → M Int32) (f_R_street : Int32 → Int32 → M Int32) (f_R_swings : Int32 → Int32 → M Int32) (f_R_text : Int32 → M Int32) (f_R_undo : M Int32) (f_R_vote : Int32 → M Int32) (f_R_who : Int32 → Int32 → M Int32) (k_1533 : Int32 → M ((Int32) ⊕ (Int32))) (x3 : Int32) : wf (β := (Int32) ⊕ (Int32)) L X q_L_law 2 (cs_L_law f_A_act f_A_alias f_A_bed f_A_beds f_A_birthdays f_A_book f_A_boot f_A_box f_A_end f_A_fault f_A_feed f_A_game f_A_goes f_A_hoop f_A_hours f_A_image f_A_keeps f_A_least f_A_letter f_A_loan f_A_look f_A_named f_A_names f_A_net f_A_notes f_A_of f_A_pair f_A_person f_A_persons f_A_says f_A_set f_A_settled f_A_sighted f_A_speakers f_A_state f_A_street f_A_swings f_A_text f_A_undo f_A_vote f_A_who f_R_act f_R_alias f_R_bed f_R_beds f_R_birthdays f_R_book f_R_boot f_R_box f_R_end f_R_fault f_R_feed f_R_game f_R_goes f_R_hoop f_R_hours f_R_image f_R_keeps f_R_least f_R_letter f_R_loan f_R_look f_R_named f_R_names f_R_net f_R_notes f_R_of f_R_pair f_R_person f_R_persons f_R_says f_R_set f_R_settled f_R_sighted f_R_speakers f_R_state f_R_street f_R_swings f_R_text f_R_undo f_R_vote f_R_who) [] [18, 212, 235, 268, 311, 354, 397, 420, 483, 506, 529, 552, 585, 618, 651, 684, 717, 740, 773, 806, 865, 888, 947, 970, 993, 1026, 1049, 1092, 1125, 1148, 1171, 1204, 1227, 1250, 1273, 1306, 1349, 1392, 1415, 1458, 1471, 1510, 1533] (fun pc ls st => mC (Nat.beq pc 1533) (mN st <| k_1533 x3) (fl)) (fun v => match v with | some (_, .int x) => rt (.inr x) | _ => fl) 1072 585 [(9997, .ref 1000000), (111, .ref 0), (112, .ref 207), (0, .int x3)] [] = (bn (gd (inR (x3 + (1 : Int32)) L)) fun _ =>
  bn (gd (inR (x3 + (2 : Int32)) L)) fun _ =>
  bn (f_A_who (X ((x3 + (1 : Int32))).toNatClampNeg) (X ((x3 + (2 : Int32))).toNatClampNeg)) fun v1 =>
  bn (gd (inR (x3 + (1 : Int32)) L)) fun _ =>
  bn (gd (inR (x3 + (2 : Int32)) L)) fun _ =>
  bn (f_R_who (X ((x3 + (1 : Int32))).toNatClampNeg) (X ((x3 + (2 : Int32))).toNatClampNeg)) fun v2 =>
  (if v1 = v2 then
    k_1533 x3
  else
    bn (gdZ (0 : Int32)) fun _ => rt (.inr (0 : Int32)))) := rfl
theorem s_L_law_585 {d : Nat} (L : Nat) (X : Nat → Int32) (hcs : AllS L X d (cs_L_law F_A_act F_A_alias F_A_bed F_A_beds F_A_birthdays F_A_book F_A_boot F_A_box F_A_end F_A_fault F_A_feed F_A_game F_A_goes F_A_hoop F_A_hours F_A_image F_A_keeps F_A_least F_A_letter F_A_loan F_A_look F_A_named F_A_names F_A_net F_A_notes F_A_of F_A_pair F_A_person F_A_persons F_A_says F_A_set F_A_settled F_A_sighted F_A_speakers F_A_state F_A_street F_A_swings F_A_text F_A_undo F_A_vote F_A_who F_R_act F_R_alias F_R_bed F_R_beds F_R_birthdays F_R_book F_R_boot F_R_box F_R_end F_R_fault F_R_feed F_R_game F_R_goes F_R_hoop F_R_hours F_R_image F_R_keeps F_R_least F_R_letter F_R_loan F_R_look F_R_named F_R_names F_R_net F_R_notes F_R_of F_R_pair F_R_person F_R_persons F_R_says F_R_set F_R_settled F_R_sighted F_R_speakers F_R_state F_R_street F_R_swings F_R_text F_R_undo F_R_vote F_R_who)) (x3 : Int32) {o : Option Value × PH} {Q : ((Int32) ⊕ (Int32)) → MI → Prop} (qb : ∀ y I, Q (.inl y) I → At L X (d + 1) 331 18 [(9997, .ref 1000000), (111, .ref 0), (112, .ref 207), (0, .int y)] [] I o) (qr : ∀ v I, Q (.inr v) I → o = (some (.int v), HH I)) (I : MI) (r : (Int32) ⊕ (Int32)) (I1 : MI) (h : K_L_law_585 L X x3 I = some (r, I1)) (hq : Q r I1) : At L X (d + 1) 331 585 [(9997, .ref 1000000), (111, .ref 0), (112, .ref 207), (0, .int x3)] [] I o := by
  refine wf_ok z_L_law hcs ?_ ?_ _ _ _ _ _ ⟨rfl, rfl, rfl, trivial, trivial⟩ trivial (unm_refl _ _) ((congrFun (e_s_L_law_585 (L := L) (X := X) F_A_act F_A_alias F_A_bed F_A_beds F_A_birthdays F_A_book F_A_boot F_A_box F_A_end F_A_fault F_A_feed F_A_game F_A_goes F_A_hoop F_A_hours F_A_image F_A_keeps F_A_least F_A_letter F_A_loan F_A_look F_A_named F_A_names F_A_net F_A_notes F_A_of F_A_pair F_A_person F_A_persons F_A_says F_A_set F_A_settled F_A_sighted F_A_speakers F_A_state F_A_street F_A_swings F_A_text F_A_undo F_A_vote F_A_who F_R_act F_R_alias F_R_bed F_R_beds F_R_birthdays F_R_book F_R_boot F_R_box F_R_end F_R_fault F_R_feed F_R_game F_R_goes F_R_hoop F_R_hours F_R_image F_R_keeps F_R_least F_R_letter F_R_loan F_R_look F_R_named F_R_names F_R_net F_R_notes F_R_of F_R_pair F_R_person F_R_persons F_R_says F_R_set F_R_settled F_R_sighted F_R_speakers F_R_state F_R_street F_R_swings F_R_text F_R_undo F_R_vote F_R_who (K_L_law_1533 L X) x3) I).trans h)
  · intro pc ls st I2 h1 h2 h3 h
    rcases mC_ok h with ⟨hb, h⟩ | ⟨_, h⟩
    · have e := Nat.eq_of_beq_eq_true hb
      subst e
      obtain ⟨hst, h⟩ := mN_ok h
      subst hst
      refine at_leaf (ls2 := [(9997, .ref 1000000), (111, .ref 0), (112, .ref 207), (0, .int x3)]) h3.1 ⟨Or.inr ⟨_, (h3.2 0 rfl).trans rfl⟩, Or.inr ⟨_, (h3.2 1 rfl).trans rfl⟩, Or.inr ⟨_, (h3.2 2 rfl).trans rfl⟩, Or.inr ⟨_, (h3.2 3 rfl).trans rfl⟩, trivial⟩ ?_
      exact s_L_law_1533 L X hcs x3 qb qr _ _ _ h hq
    cases h
  · intro v I2 _ h
    split at h
    · cases h; exact qr _ _ hq
    · cases h
def K_L_law_618 (L : Nat) (X : Nat → Int32) (x3 : Int32) : M ((Int32) ⊕ (Int32)) :=
  bn (gd (inR (x3 + (1 : Int32)) L)) fun _ =>
  bn (gd (inR (x3 + (2 : Int32)) L)) fun _ =>
  bn (F_A_street (X ((x3 + (1 : Int32))).toNatClampNeg) (X ((x3 + (2 : Int32))).toNatClampNeg)) fun v1 =>
  bn (gd (inR (x3 + (1 : Int32)) L)) fun _ =>
  bn (gd (inR (x3 + (2 : Int32)) L)) fun _ =>
  bn (F_R_street (X ((x3 + (1 : Int32))).toNatClampNeg) (X ((x3 + (2 : Int32))).toNatClampNeg)) fun v2 =>
  (if v1 = v2 then
    K_L_law_1533 L X x3
  else
    bn (gdZ (0 : Int32)) fun _ => rt (.inr (0 : Int32)))
set_option maxRecDepth 4000 in
theorem e_s_L_law_618 (f_A_act : Int32 → Int32 → Int32 → M Int32) (f_A_alias : Int32 → Int32 → Int32 → M Int32) (f_A_bed : Int32 → Int32 → M Int32) (f_A_beds : Int32 → M Int32) (f_A_birthdays : Int32 → Int32 → Int32 → M Int32) (f_A_book : Int32 → Int32 → M Int32) (f_A_boot : Int32 → M Int32) (f_A_box : Int32 → M Int32) (f_A_end : Int32 → M Int32) (f_A_fault : Int32 → M Int32) (f_A_feed : Int32 → Int32 → Int32 → Int32 → Int32 → M Int32) (f_A_game : Int32 → Int32 → Int32 → M Int32) (f_A_goes : Int32 → Int32 → M Int32) (f_A_hoop : Int32 → Int32 → Int32 → M Int32) (f_A_hours : Int32 → M Int32) (f_A_image : Int32 → M Int32) (f_A_keeps : Int32 → M Int32) (f_A_least : Int32 → M Int32) (f_A_letter : Int32 → Int32 → M Int32) (f_A_loan : Int32 → Int32 → Int32 → M Int32) (f_A_look : Int32 → M Int32) (f_A_named : Int32 → M Int32) (f_A_names : Int32 → M Int32) (f_A_net : Int32 → Int32 → M Int32) (f_A_notes : Int32 → M Int32) (f_A_of : Int32 → Int32 → M Int32) (f_A_pair : Int32 → Int32 → Int32 → M Int32) (f_A_person : Int32 → Int32 → M Int32) (f_A_persons : Int32 → Int32 → M Int32) (f_A_says : Int32 → Int32 → Int32 → M Int32) (f_A_set : Int32 → Int32 → Int32 → M Int32) (f_A_settled : Int32 → M Int32) (f_A_sighted : Int32 → Int32 → M Int32) (f_A_speakers : Int32 → M Int32) (f_A_state : Int32 → M Int32) (f_A_street : Int32 → Int32 → M Int32) (f_A_swings : Int32 → Int32 → M Int32) (f_A_text : Int32 → M Int32) (f_A_undo : M Int32) (f_A_vote : Int32 → M Int32) (f_A_who : Int32 → Int32 → M Int32) (f_R_act : Int32 → Int32 → Int32 → M Int32) (f_R_alias : Int32 → Int32 → Int32 → M Int32) (f_R_bed : Int32 → Int32 → M Int32) (f_R_beds : Int32 → M Int32) (f_R_birthdays : Int32 → Int32 → Int32 → M Int32) (f_R_book : Int32 → Int32 → M Int32) (f_R_boot : Int32 → M Int32) (f_R_box : Int32 → M Int32) (f_R_end : Int32 → M Int32) (f_R_fault : Int32 → M Int32) (f_R_feed : Int32 → Int32 → Int32 → Int32 → Int32 → M Int32) (f_R_game : Int32 → Int32 → Int32 → M Int32) (f_R_goes : Int32 → Int32 → M Int32) (f_R_hoop : Int32 → Int32 → Int32 → M Int32) (f_R_hours : Int32 → M Int32) (f_R_image : Int32 → M Int32) (f_R_keeps : Int32 → M Int32) (f_R_least : Int32 → M Int32) (f_R_letter : Int32 → Int32 → M Int32) (f_R_loan : Int32 → Int32 → Int32 → M Int32) (f_R_look : Int32 → M Int32) (f_R_named : Int32 → M Int32) (f_R_names : Int32 → M Int32) (f_R_net : Int32 → Int32 → M Int32) (f_R_notes : Int32 → M Int32) (f_R_of : Int32 → Int32 → M Int32) (f_R_pair : Int32 → Int32 → Int32 → M Int32) (f_R_person : Int32 → Int32 → M Int32) (f_R_persons : Int32 → Int32 → M Int32) (f_R_says : Int32 → Int32 → Int32 → M Int32) (f_R_set : Int32 → Int32 → Int32 → M Int32) (f_R_settled : Int32 → M Int32) (f_R_sighted : Int32 → Int32 → M Int32) (f_R_speakers : Int32 → M Int32) (f_R_state : Int32 → M Int32) (f_R_street : Int32 → Int32 → M Int32) (f_R_swings : Int32 → Int32 → M Int32) (f_R_text : Int32 → M Int32) (f_R_undo : M Int32) (f_R_vote : Int32 → M Int32) (f_R_who : Int32 → Int32 → M Int32) (k_1533 : Int32 → M ((Int32) ⊕ (Int32))) (x3 : Int32) : wf (β := (Int32) ⊕ (Int32)) L X q_L_law 2 (cs_L_law f_A_act f_A_alias f_A_bed f_A_beds f_A_birthdays f_A_book f_A_boot f_A_box f_A_end f_A_fault f_A_feed f_A_game f_A_goes f_A_hoop f_A_hours f_A_image f_A_keeps f_A_least f_A_letter f_A_loan f_A_look f_A_named f_A_names f_A_net f_A_notes f_A_of f_A_pair f_A_person f_A_persons f_A_says f_A_set f_A_settled f_A_sighted f_A_speakers f_A_state f_A_street f_A_swings f_A_text f_A_undo f_A_vote f_A_who f_R_act f_R_alias f_R_bed f_R_beds f_R_birthdays f_R_book f_R_boot f_R_box f_R_end f_R_fault f_R_feed f_R_game f_R_goes f_R_hoop f_R_hours f_R_image f_R_keeps f_R_least f_R_letter f_R_loan f_R_look f_R_named f_R_names f_R_net f_R_notes f_R_of f_R_pair f_R_person f_R_persons f_R_says f_R_set f_R_settled f_R_sighted f_R_speakers f_R_state f_R_street f_R_swings f_R_text f_R_undo f_R_vote f_R_who) [] [18, 212, 235, 268, 311, 354, 397, 420, 483, 506, 529, 552, 585, 618, 651, 684, 717, 740, 773, 806, 865, 888, 947, 970, 993, 1026, 1049, 1092, 1125, 1148, 1171, 1204, 1227, 1250, 1273, 1306, 1349, 1392, 1415, 1458, 1471, 1510, 1533] (fun pc ls st => mC (Nat.beq pc 1533) (mN st <| k_1533 x3) (fl)) (fun v => match v with | some (_, .int x) => rt (.inr x) | _ => fl) 1072 618 [(9997, .ref 1000000), (111, .ref 0), (112, .ref 207), (0, .int x3)] [] = (bn (gd (inR (x3 + (1 : Int32)) L)) fun _ =>
  bn (gd (inR (x3 + (2 : Int32)) L)) fun _ =>
  bn (f_A_street (X ((x3 + (1 : Int32))).toNatClampNeg) (X ((x3 + (2 : Int32))).toNatClampNeg)) fun v1 =>
  bn (gd (inR (x3 + (1 : Int32)) L)) fun _ =>
  bn (gd (inR (x3 + (2 : Int32)) L)) fun _ =>
  bn (f_R_street (X ((x3 + (1 : Int32))).toNatClampNeg) (X ((x3 + (2 : Int32))).toNatClampNeg)) fun v2 =>
  (if v1 = v2 then
    k_1533 x3
  else
    bn (gdZ (0 : Int32)) fun _ => rt (.inr (0 : Int32)))) := rfl
theorem s_L_law_618 {d : Nat} (L : Nat) (X : Nat → Int32) (hcs : AllS L X d (cs_L_law F_A_act F_A_alias F_A_bed F_A_beds F_A_birthdays F_A_book F_A_boot F_A_box F_A_end F_A_fault F_A_feed F_A_game F_A_goes F_A_hoop F_A_hours F_A_image F_A_keeps F_A_least F_A_letter F_A_loan F_A_look F_A_named F_A_names F_A_net F_A_notes F_A_of F_A_pair F_A_person F_A_persons F_A_says F_A_set F_A_settled F_A_sighted F_A_speakers F_A_state F_A_street F_A_swings F_A_text F_A_undo F_A_vote F_A_who F_R_act F_R_alias F_R_bed F_R_beds F_R_birthdays F_R_book F_R_boot F_R_box F_R_end F_R_fault F_R_feed F_R_game F_R_goes F_R_hoop F_R_hours F_R_image F_R_keeps F_R_least F_R_letter F_R_loan F_R_look F_R_named F_R_names F_R_net F_R_notes F_R_of F_R_pair F_R_person F_R_persons F_R_says F_R_set F_R_settled F_R_sighted F_R_speakers F_R_state F_R_street F_R_swings F_R_text F_R_undo F_R_vote F_R_who)) (x3 : Int32) {o : Option Value × PH} {Q : ((Int32) ⊕ (Int32)) → MI → Prop} (qb : ∀ y I, Q (.inl y) I → At L X (d + 1) 331 18 [(9997, .ref 1000000), (111, .ref 0), (112, .ref 207), (0, .int y)] [] I o) (qr : ∀ v I, Q (.inr v) I → o = (some (.int v), HH I)) (I : MI) (r : (Int32) ⊕ (Int32)) (I1 : MI) (h : K_L_law_618 L X x3 I = some (r, I1)) (hq : Q r I1) : At L X (d + 1) 331 618 [(9997, .ref 1000000), (111, .ref 0), (112, .ref 207), (0, .int x3)] [] I o := by
  refine wf_ok z_L_law hcs ?_ ?_ _ _ _ _ _ ⟨rfl, rfl, rfl, trivial, trivial⟩ trivial (unm_refl _ _) ((congrFun (e_s_L_law_618 (L := L) (X := X) F_A_act F_A_alias F_A_bed F_A_beds F_A_birthdays F_A_book F_A_boot F_A_box F_A_end F_A_fault F_A_feed F_A_game F_A_goes F_A_hoop F_A_hours F_A_image F_A_keeps F_A_least F_A_letter F_A_loan F_A_look F_A_named F_A_names F_A_net F_A_notes F_A_of F_A_pair F_A_person F_A_persons F_A_says F_A_set F_A_settled F_A_sighted F_A_speakers F_A_state F_A_street F_A_swings F_A_text F_A_undo F_A_vote F_A_who F_R_act F_R_alias F_R_bed F_R_beds F_R_birthdays F_R_book F_R_boot F_R_box F_R_end F_R_fault F_R_feed F_R_game F_R_goes F_R_hoop F_R_hours F_R_image F_R_keeps F_R_least F_R_letter F_R_loan F_R_look F_R_named F_R_names F_R_net F_R_notes F_R_of F_R_pair F_R_person F_R_persons F_R_says F_R_set F_R_settled F_R_sighted F_R_speakers F_R_state F_R_street F_R_swings F_R_text F_R_undo F_R_vote F_R_who (K_L_law_1533 L X) x3) I).trans h)
  · intro pc ls st I2 h1 h2 h3 h
    rcases mC_ok h with ⟨hb, h⟩ | ⟨_, h⟩
    · have e := Nat.eq_of_beq_eq_true hb
      subst e
      obtain ⟨hst, h⟩ := mN_ok h
      subst hst
      refine at_leaf (ls2 := [(9997, .ref 1000000), (111, .ref 0), (112, .ref 207), (0, .int x3)]) h3.1 ⟨Or.inr ⟨_, (h3.2 0 rfl).trans rfl⟩, Or.inr ⟨_, (h3.2 1 rfl).trans rfl⟩, Or.inr ⟨_, (h3.2 2 rfl).trans rfl⟩, Or.inr ⟨_, (h3.2 3 rfl).trans rfl⟩, trivial⟩ ?_
      exact s_L_law_1533 L X hcs x3 qb qr _ _ _ h hq
    cases h
  · intro v I2 _ h
    split at h
    · cases h; exact qr _ _ hq
    · cases h
def K_L_law_651 (L : Nat) (X : Nat → Int32) (x3 : Int32) : M ((Int32) ⊕ (Int32)) :=
  bn (gd (inR (x3 + (1 : Int32)) L)) fun _ =>
  bn (gd (inR (x3 + (2 : Int32)) L)) fun _ =>
  bn (F_A_book (X ((x3 + (1 : Int32))).toNatClampNeg) (X ((x3 + (2 : Int32))).toNatClampNeg)) fun v1 =>
  bn (gd (inR (x3 + (1 : Int32)) L)) fun _ =>
  bn (gd (inR (x3 + (2 : Int32)) L)) fun _ =>
  bn (F_R_book (X ((x3 + (1 : Int32))).toNatClampNeg) (X ((x3 + (2 : Int32))).toNatClampNeg)) fun v2 =>
  (if v1 = v2 then
    K_L_law_1533 L X x3
  else
    bn (gdZ (0 : Int32)) fun _ => rt (.inr (0 : Int32)))
set_option maxRecDepth 4000 in
theorem e_s_L_law_651 (f_A_act : Int32 → Int32 → Int32 → M Int32) (f_A_alias : Int32 → Int32 → Int32 → M Int32) (f_A_bed : Int32 → Int32 → M Int32) (f_A_beds : Int32 → M Int32) (f_A_birthdays : Int32 → Int32 → Int32 → M Int32) (f_A_book : Int32 → Int32 → M Int32) (f_A_boot : Int32 → M Int32) (f_A_box : Int32 → M Int32) (f_A_end : Int32 → M Int32) (f_A_fault : Int32 → M Int32) (f_A_feed : Int32 → Int32 → Int32 → Int32 → Int32 → M Int32) (f_A_game : Int32 → Int32 → Int32 → M Int32) (f_A_goes : Int32 → Int32 → M Int32) (f_A_hoop : Int32 → Int32 → Int32 → M Int32) (f_A_hours : Int32 → M Int32) (f_A_image : Int32 → M Int32) (f_A_keeps : Int32 → M Int32) (f_A_least : Int32 → M Int32) (f_A_letter : Int32 → Int32 → M Int32) (f_A_loan : Int32 → Int32 → Int32 → M Int32) (f_A_look : Int32 → M Int32) (f_A_named : Int32 → M Int32) (f_A_names : Int32 → M Int32) (f_A_net : Int32 → Int32 → M Int32) (f_A_notes : Int32 → M Int32) (f_A_of : Int32 → Int32 → M Int32) (f_A_pair : Int32 → Int32 → Int32 → M Int32) (f_A_person : Int32 → Int32 → M Int32) (f_A_persons : Int32 → Int32 → M Int32) (f_A_says : Int32 → Int32 → Int32 → M Int32) (f_A_set : Int32 → Int32 → Int32 → M Int32) (f_A_settled : Int32 → M Int32) (f_A_sighted : Int32 → Int32 → M Int32) (f_A_speakers : Int32 → M Int32) (f_A_state : Int32 → M Int32) (f_A_street : Int32 → Int32 → M Int32) (f_A_swings : Int32 → Int32 → M Int32) (f_A_text : Int32 → M Int32) (f_A_undo : M Int32) (f_A_vote : Int32 → M Int32) (f_A_who : Int32 → Int32 → M Int32) (f_R_act : Int32 → Int32 → Int32 → M Int32) (f_R_alias : Int32 → Int32 → Int32 → M Int32) (f_R_bed : Int32 → Int32 → M Int32) (f_R_beds : Int32 → M Int32) (f_R_birthdays : Int32 → Int32 → Int32 → M Int32) (f_R_book : Int32 → Int32 → M Int32) (f_R_boot : Int32 → M Int32) (f_R_box : Int32 → M Int32) (f_R_end : Int32 → M Int32) (f_R_fault : Int32 → M Int32) (f_R_feed : Int32 → Int32 → Int32 → Int32 → Int32 → M Int32) (f_R_game : Int32 → Int32 → Int32 → M Int32) (f_R_goes : Int32 → Int32 → M Int32) (f_R_hoop : Int32 → Int32 → Int32 → M Int32) (f_R_hours : Int32 → M Int32) (f_R_image : Int32 → M Int32) (f_R_keeps : Int32 → M Int32) (f_R_least : Int32 → M Int32) (f_R_letter : Int32 → Int32 → M Int32) (f_R_loan : Int32 → Int32 → Int32 → M Int32) (f_R_look : Int32 → M Int32) (f_R_named : Int32 → M Int32) (f_R_names : Int32 → M Int32) (f_R_net : Int32 → Int32 → M Int32) (f_R_notes : Int32 → M Int32) (f_R_of : Int32 → Int32 → M Int32) (f_R_pair : Int32 → Int32 → Int32 → M Int32) (f_R_person : Int32 → Int32 → M Int32) (f_R_persons : Int32 → Int32 → M Int32) (f_R_says : Int32 → Int32 → Int32 → M Int32) (f_R_set : Int32 → Int32 → Int32 → M Int32) (f_R_settled : Int32 → M Int32) (f_R_sighted : Int32 → Int32 → M Int32) (f_R_speakers : Int32 → M Int32) (f_R_state : Int32 → M Int32) (f_R_street : Int32 → Int32 → M Int32) (f_R_swings : Int32 → Int32 → M Int32) (f_R_text : Int32 → M Int32) (f_R_undo : M Int32) (f_R_vote : Int32 → M Int32) (f_R_who : Int32 → Int32 → M Int32) (k_1533 : Int32 → M ((Int32) ⊕ (Int32))) (x3 : Int32) : wf (β := (Int32) ⊕ (Int32)) L X q_L_law 2 (cs_L_law f_A_act f_A_alias f_A_bed f_A_beds f_A_birthdays f_A_book f_A_boot f_A_box f_A_end f_A_fault f_A_feed f_A_game f_A_goes f_A_hoop f_A_hours f_A_image f_A_keeps f_A_least f_A_letter f_A_loan f_A_look f_A_named f_A_names f_A_net f_A_notes f_A_of f_A_pair f_A_person f_A_persons f_A_says f_A_set f_A_settled f_A_sighted f_A_speakers f_A_state f_A_street f_A_swings f_A_text f_A_undo f_A_vote f_A_who f_R_act f_R_alias f_R_bed f_R_beds f_R_birthdays f_R_book f_R_boot f_R_box f_R_end f_R_fault f_R_feed f_R_game f_R_goes f_R_hoop f_R_hours f_R_image f_R_keeps f_R_least f_R_letter f_R_loan f_R_look f_R_named f_R_names f_R_net f_R_notes f_R_of f_R_pair f_R_person f_R_persons f_R_says f_R_set f_R_settled f_R_sighted f_R_speakers f_R_state f_R_street f_R_swings f_R_text f_R_undo f_R_vote f_R_who) [] [18, 212, 235, 268, 311, 354, 397, 420, 483, 506, 529, 552, 585, 618, 651, 684, 717, 740, 773, 806, 865, 888, 947, 970, 993, 1026, 1049, 1092, 1125, 1148, 1171, 1204, 1227, 1250, 1273, 1306, 1349, 1392, 1415, 1458, 1471, 1510, 1533] (fun pc ls st => mC (Nat.beq pc 1533) (mN st <| k_1533 x3) (fl)) (fun v => match v with | some (_, .int x) => rt (.inr x) | _ => fl) 1072 651 [(9997, .ref 1000000), (111, .ref 0), (112, .ref 207), (0, .int x3)] [] = (bn (gd (inR (x3 + (1 : Int32)) L)) fun _ =>
  bn (gd (inR (x3 + (2 : Int32)) L)) fun _ =>
  bn (f_A_book (X ((x3 + (1 : Int32))).toNatClampNeg) (X ((x3 + (2 : Int32))).toNatClampNeg)) fun v1 =>
  bn (gd (inR (x3 + (1 : Int32)) L)) fun _ =>
  bn (gd (inR (x3 + (2 : Int32)) L)) fun _ =>
  bn (f_R_book (X ((x3 + (1 : Int32))).toNatClampNeg) (X ((x3 + (2 : Int32))).toNatClampNeg)) fun v2 =>
  (if v1 = v2 then
    k_1533 x3
  else
    bn (gdZ (0 : Int32)) fun _ => rt (.inr (0 : Int32)))) := rfl
theorem s_L_law_651 {d : Nat} (L : Nat) (X : Nat → Int32) (hcs : AllS L X d (cs_L_law F_A_act F_A_alias F_A_bed F_A_beds F_A_birthdays F_A_book F_A_boot F_A_box F_A_end F_A_fault F_A_feed F_A_game F_A_goes F_A_hoop F_A_hours F_A_image F_A_keeps F_A_least F_A_letter F_A_loan F_A_look F_A_named F_A_names F_A_net F_A_notes F_A_of F_A_pair F_A_person F_A_persons F_A_says F_A_set F_A_settled F_A_sighted F_A_speakers F_A_state F_A_street F_A_swings F_A_text F_A_undo F_A_vote F_A_who F_R_act F_R_alias F_R_bed F_R_beds F_R_birthdays F_R_book F_R_boot F_R_box F_R_end F_R_fault F_R_feed F_R_game F_R_goes F_R_hoop F_R_hours F_R_image F_R_keeps F_R_least F_R_letter F_R_loan F_R_look F_R_named F_R_names F_R_net F_R_notes F_R_of F_R_pair F_R_person F_R_persons F_R_says F_R_set F_R_settled F_R_sighted F_R_speakers F_R_state F_R_street F_R_swings F_R_text F_R_undo F_R_vote F_R_who)) (x3 : Int32) {o : Option Value × PH} {Q : ((Int32) ⊕ (Int32)) → MI → Prop} (qb : ∀ y I, Q (.inl y) I → At L X (d + 1) 331 18 [(9997, .ref 1000000), (111, .ref 0), (112, .ref 207), (0, .int y)] [] I o) (qr : ∀ v I, Q (.inr v) I → o = (some (.int v), HH I)) (I : MI) (r : (Int32) ⊕ (Int32)) (I1 : MI) (h : K_L_law_651 L X x3 I = some (r, I1)) (hq : Q r I1) : At L X (d + 1) 331 651 [(9997, .ref 1000000), (111, .ref 0), (112, .ref 207), (0, .int x3)] [] I o := by
  refine wf_ok z_L_law hcs ?_ ?_ _ _ _ _ _ ⟨rfl, rfl, rfl, trivial, trivial⟩ trivial (unm_refl _ _) ((congrFun (e_s_L_law_651 (L := L) (X := X) F_A_act F_A_alias F_A_bed F_A_beds F_A_birthdays F_A_book F_A_boot F_A_box F_A_end F_A_fault F_A_feed F_A_game F_A_goes F_A_hoop F_A_hours F_A_image F_A_keeps F_A_least F_A_letter F_A_loan F_A_look F_A_named F_A_names F_A_net F_A_notes F_A_of F_A_pair F_A_person F_A_persons F_A_says F_A_set F_A_settled F_A_sighted F_A_speakers F_A_state F_A_street F_A_swings F_A_text F_A_undo F_A_vote F_A_who F_R_act F_R_alias F_R_bed F_R_beds F_R_birthdays F_R_book F_R_boot F_R_box F_R_end F_R_fault F_R_feed F_R_game F_R_goes F_R_hoop F_R_hours F_R_image F_R_keeps F_R_least F_R_letter F_R_loan F_R_look F_R_named F_R_names F_R_net F_R_notes F_R_of F_R_pair F_R_person F_R_persons F_R_says F_R_set F_R_settled F_R_sighted F_R_speakers F_R_state F_R_street F_R_swings F_R_text F_R_undo F_R_vote F_R_who (K_L_law_1533 L X) x3) I).trans h)
  · intro pc ls st I2 h1 h2 h3 h
    rcases mC_ok h with ⟨hb, h⟩ | ⟨_, h⟩
    · have e := Nat.eq_of_beq_eq_true hb
      subst e
      obtain ⟨hst, h⟩ := mN_ok h
      subst hst
      refine at_leaf (ls2 := [(9997, .ref 1000000), (111, .ref 0), (112, .ref 207), (0, .int x3)]) h3.1 ⟨Or.inr ⟨_, (h3.2 0 rfl).trans rfl⟩, Or.inr ⟨_, (h3.2 1 rfl).trans rfl⟩, Or.inr ⟨_, (h3.2 2 rfl).trans rfl⟩, Or.inr ⟨_, (h3.2 3 rfl).trans rfl⟩, trivial⟩ ?_
      exact s_L_law_1533 L X hcs x3 qb qr _ _ _ h hq
    cases h
  · intro v I2 _ h
    split at h
    · cases h; exact qr _ _ hq
    · cases h
def K_L_law_684 (L : Nat) (X : Nat → Int32) (x3 : Int32) : M ((Int32) ⊕ (Int32)) :=
  bn (gd (inR (x3 + (1 : Int32)) L)) fun _ =>
  bn (gd (inR (x3 + (2 : Int32)) L)) fun _ =>
  bn (F_A_goes (X ((x3 + (1 : Int32))).toNatClampNeg) (X ((x3 + (2 : Int32))).toNatClampNeg)) fun v1 =>
  bn (gd (inR (x3 + (1 : Int32)) L)) fun _ =>
  bn (gd (inR (x3 + (2 : Int32)) L)) fun _ =>
  bn (F_R_goes (X ((x3 + (1 : Int32))).toNatClampNeg) (X ((x3 + (2 : Int32))).toNatClampNeg)) fun v2 =>
  (if v1 = v2 then
    K_L_law_1533 L X x3
  else
    bn (gdZ (0 : Int32)) fun _ => rt (.inr (0 : Int32)))
set_option maxRecDepth 4000 in
theorem e_s_L_law_684 (f_A_act : Int32 → Int32 → Int32 → M Int32) (f_A_alias : Int32 → Int32 → Int32 → M Int32) (f_A_bed : Int32 → Int32 → M Int32) (f_A_beds : Int32 → M Int32) (f_A_birthdays : Int32 → Int32 → Int32 → M Int32) (f_A_book : Int32 → Int32 → M Int32) (f_A_boot : Int32 → M Int32) (f_A_box : Int32 → M Int32) (f_A_end : Int32 → M Int32) (f_A_fault : Int32 → M Int32) (f_A_feed : Int32 → Int32 → Int32 → Int32 → Int32 → M Int32) (f_A_game : Int32 → Int32 → Int32 → M Int32) (f_A_goes : Int32 → Int32 → M Int32) (f_A_hoop : Int32 → Int32 → Int32 → M Int32) (f_A_hours : Int32 → M Int32) (f_A_image : Int32 → M Int32) (f_A_keeps : Int32 → M Int32) (f_A_least : Int32 → M Int32) (f_A_letter : Int32 → Int32 → M Int32) (f_A_loan : Int32 → Int32 → Int32 → M Int32) (f_A_look : Int32 → M Int32) (f_A_named : Int32 → M Int32) (f_A_names : Int32 → M Int32) (f_A_net : Int32 → Int32 → M Int32) (f_A_notes : Int32 → M Int32) (f_A_of : Int32 → Int32 → M Int32) (f_A_pair : Int32 → Int32 → Int32 → M Int32) (f_A_person : Int32 → Int32 → M Int32) (f_A_persons : Int32 → Int32 → M Int32) (f_A_says : Int32 → Int32 → Int32 → M Int32) (f_A_set : Int32 → Int32 → Int32 → M Int32) (f_A_settled : Int32 → M Int32) (f_A_sighted : Int32 → Int32 → M Int32) (f_A_speakers : Int32 → M Int32) (f_A_state : Int32 → M Int32) (f_A_street : Int32 → Int32 → M Int32) (f_A_swings : Int32 → Int32 → M Int32) (f_A_text : Int32 → M Int32) (f_A_undo : M Int32) (f_A_vote : Int32 → M Int32) (f_A_who : Int32 → Int32 → M Int32) (f_R_act : Int32 → Int32 → Int32 → M Int32) (f_R_alias : Int32 → Int32 → Int32 → M Int32) (f_R_bed : Int32 → Int32 → M Int32) (f_R_beds : Int32 → M Int32) (f_R_birthdays : Int32 → Int32 → Int32 → M Int32) (f_R_book : Int32 → Int32 → M Int32) (f_R_boot : Int32 → M Int32) (f_R_box : Int32 → M Int32) (f_R_end : Int32 → M Int32) (f_R_fault : Int32 → M Int32) (f_R_feed : Int32 → Int32 → Int32 → Int32 → Int32 → M Int32) (f_R_game : Int32 → Int32 → Int32 → M Int32) (f_R_goes : Int32 → Int32 → M Int32) (f_R_hoop : Int32 → Int32 → Int32 → M Int32) (f_R_hours : Int32 → M Int32) (f_R_image : Int32 → M Int32) (f_R_keeps : Int32 → M Int32) (f_R_least : Int32 → M Int32) (f_R_letter : Int32 → Int32 → M Int32) (f_R_loan : Int32 → Int32 → Int32 → M Int32) (f_R_look : Int32 → M Int32) (f_R_named : Int32 → M Int32) (f_R_names : Int32 → M Int32) (f_R_net : Int32 → Int32 → M Int32) (f_R_notes : Int32 → M Int32) (f_R_of : Int32 → Int32 → M Int32) (f_R_pair : Int32 → Int32 → Int32 → M Int32) (f_R_person : Int32 → Int32 → M Int32) (f_R_persons : Int32 → Int32 → M Int32) (f_R_says : Int32 → Int32 → Int32 → M Int32) (f_R_set : Int32 → Int32 → Int32 → M Int32) (f_R_settled : Int32 → M Int32) (f_R_sighted : Int32 → Int32 → M Int32) (f_R_speakers : Int32 → M Int32) (f_R_state : Int32 → M Int32) (f_R_street : Int32 → Int32 → M Int32) (f_R_swings : Int32 → Int32 → M Int32) (f_R_text : Int32 → M Int32) (f_R_undo : M Int32) (f_R_vote : Int32 → M Int32) (f_R_who : Int32 → Int32 → M Int32) (k_1533 : Int32 → M ((Int32) ⊕ (Int32))) (x3 : Int32) : wf (β := (Int32) ⊕ (Int32)) L X q_L_law 2 (cs_L_law f_A_act f_A_alias f_A_bed f_A_beds f_A_birthdays f_A_book f_A_boot f_A_box f_A_end f_A_fault f_A_feed f_A_game f_A_goes f_A_hoop f_A_hours f_A_image f_A_keeps f_A_least f_A_letter f_A_loan f_A_look f_A_named f_A_names f_A_net f_A_notes f_A_of f_A_pair f_A_person f_A_persons f_A_says f_A_set f_A_settled f_A_sighted f_A_speakers f_A_state f_A_street f_A_swings f_A_text f_A_undo f_A_vote f_A_who f_R_act f_R_alias f_R_bed f_R_beds f_R_birthdays f_R_book f_R_boot f_R_box f_R_end f_R_fault f_R_feed f_R_game f_R_goes f_R_hoop f_R_hours f_R_image f_R_keeps f_R_least f_R_letter f_R_loan f_R_look f_R_named f_R_names f_R_net f_R_notes f_R_of f_R_pair f_R_person f_R_persons f_R_says f_R_set f_R_settled f_R_sighted f_R_speakers f_R_state f_R_street f_R_swings f_R_text f_R_undo f_R_vote f_R_who) [] [18, 212, 235, 268, 311, 354, 397, 420, 483, 506, 529, 552, 585, 618, 651, 684, 717, 740, 773, 806, 865, 888, 947, 970, 993, 1026, 1049, 1092, 1125, 1148, 1171, 1204, 1227, 1250, 1273, 1306, 1349, 1392, 1415, 1458, 1471, 1510, 1533] (fun pc ls st => mC (Nat.beq pc 1533) (mN st <| k_1533 x3) (fl)) (fun v => match v with | some (_, .int x) => rt (.inr x) | _ => fl) 1072 684 [(9997, .ref 1000000), (111, .ref 0), (112, .ref 207), (0, .int x3)] [] = (bn (gd (inR (x3 + (1 : Int32)) L)) fun _ =>
  bn (gd (inR (x3 + (2 : Int32)) L)) fun _ =>
  bn (f_A_goes (X ((x3 + (1 : Int32))).toNatClampNeg) (X ((x3 + (2 : Int32))).toNatClampNeg)) fun v1 =>
  bn (gd (inR (x3 + (1 : Int32)) L)) fun _ =>
  bn (gd (inR (x3 + (2 : Int32)) L)) fun _ =>
  bn (f_R_goes (X ((x3 + (1 : Int32))).toNatClampNeg) (X ((x3 + (2 : Int32))).toNatClampNeg)) fun v2 =>
  (if v1 = v2 then
    k_1533 x3
  else
    bn (gdZ (0 : Int32)) fun _ => rt (.inr (0 : Int32)))) := rfl
theorem s_L_law_684 {d : Nat} (L : Nat) (X : Nat → Int32) (hcs : AllS L X d (cs_L_law F_A_act F_A_alias F_A_bed F_A_beds F_A_birthdays F_A_book F_A_boot F_A_box F_A_end F_A_fault F_A_feed F_A_game F_A_goes F_A_hoop F_A_hours F_A_image F_A_keeps F_A_least F_A_letter F_A_loan F_A_look F_A_named F_A_names F_A_net F_A_notes F_A_of F_A_pair F_A_person F_A_persons F_A_says F_A_set F_A_settled F_A_sighted F_A_speakers F_A_state F_A_street F_A_swings F_A_text F_A_undo F_A_vote F_A_who F_R_act F_R_alias F_R_bed F_R_beds F_R_birthdays F_R_book F_R_boot F_R_box F_R_end F_R_fault F_R_feed F_R_game F_R_goes F_R_hoop F_R_hours F_R_image F_R_keeps F_R_least F_R_letter F_R_loan F_R_look F_R_named F_R_names F_R_net F_R_notes F_R_of F_R_pair F_R_person F_R_persons F_R_says F_R_set F_R_settled F_R_sighted F_R_speakers F_R_state F_R_street F_R_swings F_R_text F_R_undo F_R_vote F_R_who)) (x3 : Int32) {o : Option Value × PH} {Q : ((Int32) ⊕ (Int32)) → MI → Prop} (qb : ∀ y I, Q (.inl y) I → At L X (d + 1) 331 18 [(9997, .ref 1000000), (111, .ref 0), (112, .ref 207), (0, .int y)] [] I o) (qr : ∀ v I, Q (.inr v) I → o = (some (.int v), HH I)) (I : MI) (r : (Int32) ⊕ (Int32)) (I1 : MI) (h : K_L_law_684 L X x3 I = some (r, I1)) (hq : Q r I1) : At L X (d + 1) 331 684 [(9997, .ref 1000000), (111, .ref 0), (112, .ref 207), (0, .int x3)] [] I o := by
  refine wf_ok z_L_law hcs ?_ ?_ _ _ _ _ _ ⟨rfl, rfl, rfl, trivial, trivial⟩ trivial (unm_refl _ _) ((congrFun (e_s_L_law_684 (L := L) (X := X) F_A_act F_A_alias F_A_bed F_A_beds F_A_birthdays F_A_book F_A_boot F_A_box F_A_end F_A_fault F_A_feed F_A_game F_A_goes F_A_hoop F_A_hours F_A_image F_A_keeps F_A_least F_A_letter F_A_loan F_A_look F_A_named F_A_names F_A_net F_A_notes F_A_of F_A_pair F_A_person F_A_persons F_A_says F_A_set F_A_settled F_A_sighted F_A_speakers F_A_state F_A_street F_A_swings F_A_text F_A_undo F_A_vote F_A_who F_R_act F_R_alias F_R_bed F_R_beds F_R_birthdays F_R_book F_R_boot F_R_box F_R_end F_R_fault F_R_feed F_R_game F_R_goes F_R_hoop F_R_hours F_R_image F_R_keeps F_R_least F_R_letter F_R_loan F_R_look F_R_named F_R_names F_R_net F_R_notes F_R_of F_R_pair F_R_person F_R_persons F_R_says F_R_set F_R_settled F_R_sighted F_R_speakers F_R_state F_R_street F_R_swings F_R_text F_R_undo F_R_vote F_R_who (K_L_law_1533 L X) x3) I).trans h)
  · intro pc ls st I2 h1 h2 h3 h
    rcases mC_ok h with ⟨hb, h⟩ | ⟨_, h⟩
    · have e := Nat.eq_of_beq_eq_true hb
      subst e
      obtain ⟨hst, h⟩ := mN_ok h
      subst hst
      refine at_leaf (ls2 := [(9997, .ref 1000000), (111, .ref 0), (112, .ref 207), (0, .int x3)]) h3.1 ⟨Or.inr ⟨_, (h3.2 0 rfl).trans rfl⟩, Or.inr ⟨_, (h3.2 1 rfl).trans rfl⟩, Or.inr ⟨_, (h3.2 2 rfl).trans rfl⟩, Or.inr ⟨_, (h3.2 3 rfl).trans rfl⟩, trivial⟩ ?_
      exact s_L_law_1533 L X hcs x3 qb qr _ _ _ h hq
    cases h
  · intro v I2 _ h
    split at h
    · cases h; exact qr _ _ hq
    · cases h
def K_L_law_717 (L : Nat) (X : Nat → Int32) (x3 : Int32) : M ((Int32) ⊕ (Int32)) :=
  bn (gd (inR (x3 + (1 : Int32)) L)) fun _ =>
  bn (F_A_keeps (X ((x3 + (1 : Int32))).toNatClampNeg)) fun v1 =>
  bn (gd (inR (x3 + (1 : Int32)) L)) fun _ =>
  bn (F_R_keeps (X ((x3 + (1 : Int32))).toNatClampNeg)) fun v2 =>
  (if v1 = v2 then
    K_L_law_1533 L X x3
  else
    bn (gdZ (0 : Int32)) fun _ => rt (.inr (0 : Int32)))
set_option maxRecDepth 4000 in
theorem e_s_L_law_717 (f_A_act : Int32 → Int32 → Int32 → M Int32) (f_A_alias : Int32 → Int32 → Int32 → M Int32) (f_A_bed : Int32 → Int32 → M Int32) (f_A_beds : Int32 → M Int32) (f_A_birthdays : Int32 → Int32 → Int32 → M Int32) (f_A_book : Int32 → Int32 → M Int32) (f_A_boot : Int32 → M Int32) (f_A_box : Int32 → M Int32) (f_A_end : Int32 → M Int32) (f_A_fault : Int32 → M Int32) (f_A_feed : Int32 → Int32 → Int32 → Int32 → Int32 → M Int32) (f_A_game : Int32 → Int32 → Int32 → M Int32) (f_A_goes : Int32 → Int32 → M Int32) (f_A_hoop : Int32 → Int32 → Int32 → M Int32) (f_A_hours : Int32 → M Int32) (f_A_image : Int32 → M Int32) (f_A_keeps : Int32 → M Int32) (f_A_least : Int32 → M Int32) (f_A_letter : Int32 → Int32 → M Int32) (f_A_loan : Int32 → Int32 → Int32 → M Int32) (f_A_look : Int32 → M Int32) (f_A_named : Int32 → M Int32) (f_A_names : Int32 → M Int32) (f_A_net : Int32 → Int32 → M Int32) (f_A_notes : Int32 → M Int32) (f_A_of : Int32 → Int32 → M Int32) (f_A_pair : Int32 → Int32 → Int32 → M Int32) (f_A_person : Int32 → Int32 → M Int32) (f_A_persons : Int32 → Int32 → M Int32) (f_A_says : Int32 → Int32 → Int32 → M Int32) (f_A_set : Int32 → Int32 → Int32 → M Int32) (f_A_settled : Int32 → M Int32) (f_A_sighted : Int32 → Int32 → M Int32) (f_A_speakers : Int32 → M Int32) (f_A_state : Int32 → M Int32) (f_A_street : Int32 → Int32 → M Int32) (f_A_swings : Int32 → Int32 → M Int32) (f_A_text : Int32 → M Int32) (f_A_undo : M Int32) (f_A_vote : Int32 → M Int32) (f_A_who : Int32 → Int32 → M Int32) (f_R_act : Int32 → Int32 → Int32 → M Int32) (f_R_alias : Int32 → Int32 → Int32 → M Int32) (f_R_bed : Int32 → Int32 → M Int32) (f_R_beds : Int32 → M Int32) (f_R_birthdays : Int32 → Int32 → Int32 → M Int32) (f_R_book : Int32 → Int32 → M Int32) (f_R_boot : Int32 → M Int32) (f_R_box : Int32 → M Int32) (f_R_end : Int32 → M Int32) (f_R_fault : Int32 → M Int32) (f_R_feed : Int32 → Int32 → Int32 → Int32 → Int32 → M Int32) (f_R_game : Int32 → Int32 → Int32 → M Int32) (f_R_goes : Int32 → Int32 → M Int32) (f_R_hoop : Int32 → Int32 → Int32 → M Int32) (f_R_hours : Int32 → M Int32) (f_R_image : Int32 → M Int32) (f_R_keeps : Int32 → M Int32) (f_R_least : Int32 → M Int32) (f_R_letter : Int32 → Int32 → M Int32) (f_R_loan : Int32 → Int32 → Int32 → M Int32) (f_R_look : Int32 → M Int32) (f_R_named : Int32 → M Int32) (f_R_names : Int32 → M Int32) (f_R_net : Int32 → Int32 → M Int32) (f_R_notes : Int32 → M Int32) (f_R_of : Int32 → Int32 → M Int32) (f_R_pair : Int32 → Int32 → Int32 → M Int32) (f_R_person : Int32 → Int32 → M Int32) (f_R_persons : Int32 → Int32 → M Int32) (f_R_says : Int32 → Int32 → Int32 → M Int32) (f_R_set : Int32 → Int32 → Int32 → M Int32) (f_R_settled : Int32 → M Int32) (f_R_sighted : Int32 → Int32 → M Int32) (f_R_speakers : Int32 → M Int32) (f_R_state : Int32 → M Int32) (f_R_street : Int32 → Int32 → M Int32) (f_R_swings : Int32 → Int32 → M Int32) (f_R_text : Int32 → M Int32) (f_R_undo : M Int32) (f_R_vote : Int32 → M Int32) (f_R_who : Int32 → Int32 → M Int32) (k_1533 : Int32 → M ((Int32) ⊕ (Int32))) (x3 : Int32) : wf (β := (Int32) ⊕ (Int32)) L X q_L_law 2 (cs_L_law f_A_act f_A_alias f_A_bed f_A_beds f_A_birthdays f_A_book f_A_boot f_A_box f_A_end f_A_fault f_A_feed f_A_game f_A_goes f_A_hoop f_A_hours f_A_image f_A_keeps f_A_least f_A_letter f_A_loan f_A_look f_A_named f_A_names f_A_net f_A_notes f_A_of f_A_pair f_A_person f_A_persons f_A_says f_A_set f_A_settled f_A_sighted f_A_speakers f_A_state f_A_street f_A_swings f_A_text f_A_undo f_A_vote f_A_who f_R_act f_R_alias f_R_bed f_R_beds f_R_birthdays f_R_book f_R_boot f_R_box f_R_end f_R_fault f_R_feed f_R_game f_R_goes f_R_hoop f_R_hours f_R_image f_R_keeps f_R_least f_R_letter f_R_loan f_R_look f_R_named f_R_names f_R_net f_R_notes f_R_of f_R_pair f_R_person f_R_persons f_R_says f_R_set f_R_settled f_R_sighted f_R_speakers f_R_state f_R_street f_R_swings f_R_text f_R_undo f_R_vote f_R_who) [] [18, 212, 235, 268, 311, 354, 397, 420, 483, 506, 529, 552, 585, 618, 651, 684, 717, 740, 773, 806, 865, 888, 947, 970, 993, 1026, 1049, 1092, 1125, 1148, 1171, 1204, 1227, 1250, 1273, 1306, 1349, 1392, 1415, 1458, 1471, 1510, 1533] (fun pc ls st => mC (Nat.beq pc 1533) (mN st <| k_1533 x3) (fl)) (fun v => match v with | some (_, .int x) => rt (.inr x) | _ => fl) 1072 717 [(9997, .ref 1000000), (111, .ref 0), (112, .ref 207), (0, .int x3)] [] = (bn (gd (inR (x3 + (1 : Int32)) L)) fun _ =>
  bn (f_A_keeps (X ((x3 + (1 : Int32))).toNatClampNeg)) fun v1 =>
  bn (gd (inR (x3 + (1 : Int32)) L)) fun _ =>
  bn (f_R_keeps (X ((x3 + (1 : Int32))).toNatClampNeg)) fun v2 =>
  (if v1 = v2 then
    k_1533 x3
  else
    bn (gdZ (0 : Int32)) fun _ => rt (.inr (0 : Int32)))) := rfl
theorem s_L_law_717 {d : Nat} (L : Nat) (X : Nat → Int32) (hcs : AllS L X d (cs_L_law F_A_act F_A_alias F_A_bed F_A_beds F_A_birthdays F_A_book F_A_boot F_A_box F_A_end F_A_fault F_A_feed F_A_game F_A_goes F_A_hoop F_A_hours F_A_image F_A_keeps F_A_least F_A_letter F_A_loan F_A_look F_A_named F_A_names F_A_net F_A_notes F_A_of F_A_pair F_A_person F_A_persons F_A_says F_A_set F_A_settled F_A_sighted F_A_speakers F_A_state F_A_street F_A_swings F_A_text F_A_undo F_A_vote F_A_who F_R_act F_R_alias F_R_bed F_R_beds F_R_birthdays F_R_book F_R_boot F_R_box F_R_end F_R_fault F_R_feed F_R_game F_R_goes F_R_hoop F_R_hours F_R_image F_R_keeps F_R_least F_R_letter F_R_loan F_R_look F_R_named F_R_names F_R_net F_R_notes F_R_of F_R_pair F_R_person F_R_persons F_R_says F_R_set F_R_settled F_R_sighted F_R_speakers F_R_state F_R_street F_R_swings F_R_text F_R_undo F_R_vote F_R_who)) (x3 : Int32) {o : Option Value × PH} {Q : ((Int32) ⊕ (Int32)) → MI → Prop} (qb : ∀ y I, Q (.inl y) I → At L X (d + 1) 331 18 [(9997, .ref 1000000), (111, .ref 0), (112, .ref 207), (0, .int y)] [] I o) (qr : ∀ v I, Q (.inr v) I → o = (some (.int v), HH I)) (I : MI) (r : (Int32) ⊕ (Int32)) (I1 : MI) (h : K_L_law_717 L X x3 I = some (r, I1)) (hq : Q r I1) : At L X (d + 1) 331 717 [(9997, .ref 1000000), (111, .ref 0), (112, .ref 207), (0, .int x3)] [] I o := by
  refine wf_ok z_L_law hcs ?_ ?_ _ _ _ _ _ ⟨rfl, rfl, rfl, trivial, trivial⟩ trivial (unm_refl _ _) ((congrFun (e_s_L_law_717 (L := L) (X := X) F_A_act F_A_alias F_A_bed F_A_beds F_A_birthdays F_A_book F_A_boot F_A_box F_A_end F_A_fault F_A_feed F_A_game F_A_goes F_A_hoop F_A_hours F_A_image F_A_keeps F_A_least F_A_letter F_A_loan F_A_look F_A_named F_A_names F_A_net F_A_notes F_A_of F_A_pair F_A_person F_A_persons F_A_says F_A_set F_A_settled F_A_sighted F_A_speakers F_A_state F_A_street F_A_swings F_A_text F_A_undo F_A_vote F_A_who F_R_act F_R_alias F_R_bed F_R_beds F_R_birthdays F_R_book F_R_boot F_R_box F_R_end F_R_fault F_R_feed F_R_game F_R_goes F_R_hoop F_R_hours F_R_image F_R_keeps F_R_least F_R_letter F_R_loan F_R_look F_R_named F_R_names F_R_net F_R_notes F_R_of F_R_pair F_R_person F_R_persons F_R_says F_R_set F_R_settled F_R_sighted F_R_speakers F_R_state F_R_street F_R_swings F_R_text F_R_undo F_R_vote F_R_who (K_L_law_1533 L X) x3) I).trans h)
  · intro pc ls st I2 h1 h2 h3 h
    rcases mC_ok h with ⟨hb, h⟩ | ⟨_, h⟩
    · have e := Nat.eq_of_beq_eq_true hb
      subst e
      obtain ⟨hst, h⟩ := mN_ok h
      subst hst
      refine at_leaf (ls2 := [(9997, .ref 1000000), (111, .ref 0), (112, .ref 207), (0, .int x3)]) h3.1 ⟨Or.inr ⟨_, (h3.2 0 rfl).trans rfl⟩, Or.inr ⟨_, (h3.2 1 rfl).trans rfl⟩, Or.inr ⟨_, (h3.2 2 rfl).trans rfl⟩, Or.inr ⟨_, (h3.2 3 rfl).trans rfl⟩, trivial⟩ ?_
      exact s_L_law_1533 L X hcs x3 qb qr _ _ _ h hq
    cases h
  · intro v I2 _ h
    split at h
    · cases h; exact qr _ _ hq
    · cases h
def K_L_law_740 (L : Nat) (X : Nat → Int32) (x3 : Int32) : M ((Int32) ⊕ (Int32)) :=
  bn (gd (inR (x3 + (1 : Int32)) L)) fun _ =>
  bn (gd (inR (x3 + (2 : Int32)) L)) fun _ =>
  bn (F_A_sighted (X ((x3 + (1 : Int32))).toNatClampNeg) (X ((x3 + (2 : Int32))).toNatClampNeg)) fun v1 =>
  bn (gd (inR (x3 + (1 : Int32)) L)) fun _ =>
  bn (gd (inR (x3 + (2 : Int32)) L)) fun _ =>
  bn (F_R_sighted (X ((x3 + (1 : Int32))).toNatClampNeg) (X ((x3 + (2 : Int32))).toNatClampNeg)) fun v2 =>
  (if v1 = v2 then
    K_L_law_1533 L X x3
  else
    bn (gdZ (0 : Int32)) fun _ => rt (.inr (0 : Int32)))
set_option maxRecDepth 4000 in
theorem e_s_L_law_740 (f_A_act : Int32 → Int32 → Int32 → M Int32) (f_A_alias : Int32 → Int32 → Int32 → M Int32) (f_A_bed : Int32 → Int32 → M Int32) (f_A_beds : Int32 → M Int32) (f_A_birthdays : Int32 → Int32 → Int32 → M Int32) (f_A_book : Int32 → Int32 → M Int32) (f_A_boot : Int32 → M Int32) (f_A_box : Int32 → M Int32) (f_A_end : Int32 → M Int32) (f_A_fault : Int32 → M Int32) (f_A_feed : Int32 → Int32 → Int32 → Int32 → Int32 → M Int32) (f_A_game : Int32 → Int32 → Int32 → M Int32) (f_A_goes : Int32 → Int32 → M Int32) (f_A_hoop : Int32 → Int32 → Int32 → M Int32) (f_A_hours : Int32 → M Int32) (f_A_image : Int32 → M Int32) (f_A_keeps : Int32 → M Int32) (f_A_least : Int32 → M Int32) (f_A_letter : Int32 → Int32 → M Int32) (f_A_loan : Int32 → Int32 → Int32 → M Int32) (f_A_look : Int32 → M Int32) (f_A_named : Int32 → M Int32) (f_A_names : Int32 → M Int32) (f_A_net : Int32 → Int32 → M Int32) (f_A_notes : Int32 → M Int32) (f_A_of : Int32 → Int32 → M Int32) (f_A_pair : Int32 → Int32 → Int32 → M Int32) (f_A_person : Int32 → Int32 → M Int32) (f_A_persons : Int32 → Int32 → M Int32) (f_A_says : Int32 → Int32 → Int32 → M Int32) (f_A_set : Int32 → Int32 → Int32 → M Int32) (f_A_settled : Int32 → M Int32) (f_A_sighted : Int32 → Int32 → M Int32) (f_A_speakers : Int32 → M Int32) (f_A_state : Int32 → M Int32) (f_A_street : Int32 → Int32 → M Int32) (f_A_swings : Int32 → Int32 → M Int32) (f_A_text : Int32 → M Int32) (f_A_undo : M Int32) (f_A_vote : Int32 → M Int32) (f_A_who : Int32 → Int32 → M Int32) (f_R_act : Int32 → Int32 → Int32 → M Int32) (f_R_alias : Int32 → Int32 → Int32 → M Int32) (f_R_bed : Int32 → Int32 → M Int32) (f_R_beds : Int32 → M Int32) (f_R_birthdays : Int32 → Int32 → Int32 → M Int32) (f_R_book : Int32 → Int32 → M Int32) (f_R_boot : Int32 → M Int32) (f_R_box : Int32 → M Int32) (f_R_end : Int32 → M Int32) (f_R_fault : Int32 → M Int32) (f_R_feed : Int32 → Int32 → Int32 → Int32 → Int32 → M Int32) (f_R_game : Int32 → Int32 → Int32 → M Int32) (f_R_goes : Int32 → Int32 → M Int32) (f_R_hoop : Int32 → Int32 → Int32 → M Int32) (f_R_hours : Int32 → M Int32) (f_R_image : Int32 → M Int32) (f_R_keeps : Int32 → M Int32) (f_R_least : Int32 → M Int32) (f_R_letter : Int32 → Int32 → M Int32) (f_R_loan : Int32 → Int32 → Int32 → M Int32) (f_R_look : Int32 → M Int32) (f_R_named : Int32 → M Int32) (f_R_names : Int32 → M Int32) (f_R_net : Int32 → Int32 → M Int32) (f_R_notes : Int32 → M Int32) (f_R_of : Int32 → Int32 → M Int32) (f_R_pair : Int32 → Int32 → Int32 → M Int32) (f_R_person : Int32 → Int32 → M Int32) (f_R_persons : Int32 → Int32 → M Int32) (f_R_says : Int32 → Int32 → Int32 → M Int32) (f_R_set : Int32 → Int32 → Int32 → M Int32) (f_R_settled : Int32 → M Int32) (f_R_sighted : Int32 → Int32 → M Int32) (f_R_speakers : Int32 → M Int32) (f_R_state : Int32 → M Int32) (f_R_street : Int32 → Int32 → M Int32) (f_R_swings : Int32 → Int32 → M Int32) (f_R_text : Int32 → M Int32) (f_R_undo : M Int32) (f_R_vote : Int32 → M Int32) (f_R_who : Int32 → Int32 → M Int32) (k_1533 : Int32 → M ((Int32) ⊕ (Int32))) (x3 : Int32) : wf (β := (Int32) ⊕ (Int32)) L X q_L_law 2 (cs_L_law f_A_act f_A_alias f_A_bed f_A_beds f_A_birthdays f_A_book f_A_boot f_A_box f_A_end f_A_fault f_A_feed f_A_game f_A_goes f_A_hoop f_A_hours f_A_image f_A_keeps f_A_least f_A_letter f_A_loan f_A_look f_A_named f_A_names f_A_net f_A_notes f_A_of f_A_pair f_A_person f_A_persons f_A_says f_A_set f_A_settled f_A_sighted f_A_speakers f_A_state f_A_street f_A_swings f_A_text f_A_undo f_A_vote f_A_who f_R_act f_R_alias f_R_bed f_R_beds f_R_birthdays f_R_book f_R_boot f_R_box f_R_end f_R_fault f_R_feed f_R_game f_R_goes f_R_hoop f_R_hours f_R_image f_R_keeps f_R_least f_R_letter f_R_loan f_R_look f_R_named f_R_names f_R_net f_R_notes f_R_of f_R_pair f_R_person f_R_persons f_R_says f_R_set f_R_settled f_R_sighted f_R_speakers f_R_state f_R_street f_R_swings f_R_text f_R_undo f_R_vote f_R_who) [] [18, 212, 235, 268, 311, 354, 397, 420, 483, 506, 529, 552, 585, 618, 651, 684, 717, 740, 773, 806, 865, 888, 947, 970, 993, 1026, 1049, 1092, 1125, 1148, 1171, 1204, 1227, 1250, 1273, 1306, 1349, 1392, 1415, 1458, 1471, 1510, 1533] (fun pc ls st => mC (Nat.beq pc 1533) (mN st <| k_1533 x3) (fl)) (fun v => match v with | some (_, .int x) => rt (.inr x) | _ => fl) 1072 740 [(9997, .ref 1000000), (111, .ref 0), (112, .ref 207), (0, .int x3)] [] = (bn (gd (inR (x3 + (1 : Int32)) L)) fun _ =>
  bn (gd (inR (x3 + (2 : Int32)) L)) fun _ =>
  bn (f_A_sighted (X ((x3 + (1 : Int32))).toNatClampNeg) (X ((x3 + (2 : Int32))).toNatClampNeg)) fun v1 =>
  bn (gd (inR (x3 + (1 : Int32)) L)) fun _ =>
  bn (gd (inR (x3 + (2 : Int32)) L)) fun _ =>
  bn (f_R_sighted (X ((x3 + (1 : Int32))).toNatClampNeg) (X ((x3 + (2 : Int32))).toNatClampNeg)) fun v2 =>
  (if v1 = v2 then
    k_1533 x3
  else
    bn (gdZ (0 : Int32)) fun _ => rt (.inr (0 : Int32)))) := rfl
theorem s_L_law_740 {d : Nat} (L : Nat) (X : Nat → Int32) (hcs : AllS L X d (cs_L_law F_A_act F_A_alias F_A_bed F_A_beds F_A_birthdays F_A_book F_A_boot F_A_box F_A_end F_A_fault F_A_feed F_A_game F_A_goes F_A_hoop F_A_hours F_A_image F_A_keeps F_A_least F_A_letter F_A_loan F_A_look F_A_named F_A_names F_A_net F_A_notes F_A_of F_A_pair F_A_person F_A_persons F_A_says F_A_set F_A_settled F_A_sighted F_A_speakers F_A_state F_A_street F_A_swings F_A_text F_A_undo F_A_vote F_A_who F_R_act F_R_alias F_R_bed F_R_beds F_R_birthdays F_R_book F_R_boot F_R_box F_R_end F_R_fault F_R_feed F_R_game F_R_goes F_R_hoop F_R_hours F_R_image F_R_keeps F_R_least F_R_letter F_R_loan F_R_look F_R_named F_R_names F_R_net F_R_notes F_R_of F_R_pair F_R_person F_R_persons F_R_says F_R_set F_R_settled F_R_sighted F_R_speakers F_R_state F_R_street F_R_swings F_R_text F_R_undo F_R_vote F_R_who)) (x3 : Int32) {o : Option Value × PH} {Q : ((Int32) ⊕ (Int32)) → MI → Prop} (qb : ∀ y I, Q (.inl y) I → At L X (d + 1) 331 18 [(9997, .ref 1000000), (111, .ref 0), (112, .ref 207), (0, .int y)] [] I o) (qr : ∀ v I, Q (.inr v) I → o = (some (.int v), HH I)) (I : MI) (r : (Int32) ⊕ (Int32)) (I1 : MI) (h : K_L_law_740 L X x3 I = some (r, I1)) (hq : Q r I1) : At L X (d + 1) 331 740 [(9997, .ref 1000000), (111, .ref 0), (112, .ref 207), (0, .int x3)] [] I o := by
  refine wf_ok z_L_law hcs ?_ ?_ _ _ _ _ _ ⟨rfl, rfl, rfl, trivial, trivial⟩ trivial (unm_refl _ _) ((congrFun (e_s_L_law_740 (L := L) (X := X) F_A_act F_A_alias F_A_bed F_A_beds F_A_birthdays F_A_book F_A_boot F_A_box F_A_end F_A_fault F_A_feed F_A_game F_A_goes F_A_hoop F_A_hours F_A_image F_A_keeps F_A_least F_A_letter F_A_loan F_A_look F_A_named F_A_names F_A_net F_A_notes F_A_of F_A_pair F_A_person F_A_persons F_A_says F_A_set F_A_settled F_A_sighted F_A_speakers F_A_state F_A_street F_A_swings F_A_text F_A_undo F_A_vote F_A_who F_R_act F_R_alias F_R_bed F_R_beds F_R_birthdays F_R_book F_R_boot F_R_box F_R_end F_R_fault F_R_feed F_R_game F_R_goes F_R_hoop F_R_hours F_R_image F_R_keeps F_R_least F_R_letter F_R_loan F_R_look F_R_named F_R_names F_R_net F_R_notes F_R_of F_R_pair F_R_person F_R_persons F_R_says F_R_set F_R_settled F_R_sighted F_R_speakers F_R_state F_R_street F_R_swings F_R_text F_R_undo F_R_vote F_R_who (K_L_law_1533 L X) x3) I).trans h)
  · intro pc ls st I2 h1 h2 h3 h
    rcases mC_ok h with ⟨hb, h⟩ | ⟨_, h⟩
    · have e := Nat.eq_of_beq_eq_true hb
      subst e
      obtain ⟨hst, h⟩ := mN_ok h
      subst hst
      refine at_leaf (ls2 := [(9997, .ref 1000000), (111, .ref 0), (112, .ref 207), (0, .int x3)]) h3.1 ⟨Or.inr ⟨_, (h3.2 0 rfl).trans rfl⟩, Or.inr ⟨_, (h3.2 1 rfl).trans rfl⟩, Or.inr ⟨_, (h3.2 2 rfl).trans rfl⟩, Or.inr ⟨_, (h3.2 3 rfl).trans rfl⟩, trivial⟩ ?_
      exact s_L_law_1533 L X hcs x3 qb qr _ _ _ h hq
    cases h
  · intro v I2 _ h
    split at h
    · cases h; exact qr _ _ hq
    · cases h
def K_L_law_773 (L : Nat) (X : Nat → Int32) (x3 : Int32) : M ((Int32) ⊕ (Int32)) :=
  bn (gd (inR (x3 + (1 : Int32)) L)) fun _ =>
  bn (gd (inR (x3 + (2 : Int32)) L)) fun _ =>
  bn (F_A_persons (X ((x3 + (1 : Int32))).toNatClampNeg) (X ((x3 + (2 : Int32))).toNatClampNeg)) fun v1 =>
  bn (gd (inR (x3 + (1 : Int32)) L)) fun _ =>
  bn (gd (inR (x3 + (2 : Int32)) L)) fun _ =>
  bn (F_R_persons (X ((x3 + (1 : Int32))).toNatClampNeg) (X ((x3 + (2 : Int32))).toNatClampNeg)) fun v2 =>
  (if v1 = v2 then
    K_L_law_1533 L X x3
  else
    bn (gdZ (0 : Int32)) fun _ => rt (.inr (0 : Int32)))
set_option maxRecDepth 4000 in
theorem e_s_L_law_773 (f_A_act : Int32 → Int32 → Int32 → M Int32) (f_A_alias : Int32 → Int32 → Int32 → M Int32) (f_A_bed : Int32 → Int32 → M Int32) (f_A_beds : Int32 → M Int32) (f_A_birthdays : Int32 → Int32 → Int32 → M Int32) (f_A_book : Int32 → Int32 → M Int32) (f_A_boot : Int32 → M Int32) (f_A_box : Int32 → M Int32) (f_A_end : Int32 → M Int32) (f_A_fault : Int32 → M Int32) (f_A_feed : Int32 → Int32 → Int32 → Int32 → Int32 → M Int32) (f_A_game : Int32 → Int32 → Int32 → M Int32) (f_A_goes : Int32 → Int32 → M Int32) (f_A_hoop : Int32 → Int32 → Int32 → M Int32) (f_A_hours : Int32 → M Int32) (f_A_image : Int32 → M Int32) (f_A_keeps : Int32 → M Int32) (f_A_least : Int32 → M Int32) (f_A_letter : Int32 → Int32 → M Int32) (f_A_loan : Int32 → Int32 → Int32 → M Int32) (f_A_look : Int32 → M Int32) (f_A_named : Int32 → M Int32) (f_A_names : Int32 → M Int32) (f_A_net : Int32 → Int32 → M Int32) (f_A_notes : Int32 → M Int32) (f_A_of : Int32 → Int32 → M Int32) (f_A_pair : Int32 → Int32 → Int32 → M Int32) (f_A_person : Int32 → Int32 → M Int32) (f_A_persons : Int32 → Int32 → M Int32) (f_A_says : Int32 → Int32 → Int32 → M Int32) (f_A_set : Int32 → Int32 → Int32 → M Int32) (f_A_settled : Int32 → M Int32) (f_A_sighted : Int32 → Int32 → M Int32) (f_A_speakers : Int32 → M Int32) (f_A_state : Int32 → M Int32) (f_A_street : Int32 → Int32 → M Int32) (f_A_swings : Int32 → Int32 → M Int32) (f_A_text : Int32 → M Int32) (f_A_undo : M Int32) (f_A_vote : Int32 → M Int32) (f_A_who : Int32 → Int32 → M Int32) (f_R_act : Int32 → Int32 → Int32 → M Int32) (f_R_alias : Int32 → Int32 → Int32 → M Int32) (f_R_bed : Int32 → Int32 → M Int32) (f_R_beds : Int32 → M Int32) (f_R_birthdays : Int32 → Int32 → Int32 → M Int32) (f_R_book : Int32 → Int32 → M Int32) (f_R_boot : Int32 → M Int32) (f_R_box : Int32 → M Int32) (f_R_end : Int32 → M Int32) (f_R_fault : Int32 → M Int32) (f_R_feed : Int32 → Int32 → Int32 → Int32 → Int32 → M Int32) (f_R_game : Int32 → Int32 → Int32 → M Int32) (f_R_goes : Int32 → Int32 → M Int32) (f_R_hoop : Int32 → Int32 → Int32 → M Int32) (f_R_hours : Int32 → M Int32) (f_R_image : Int32 → M Int32) (f_R_keeps : Int32 → M Int32) (f_R_least : Int32 → M Int32) (f_R_letter : Int32 → Int32 → M Int32) (f_R_loan : Int32 → Int32 → Int32 → M Int32) (f_R_look : Int32 → M Int32) (f_R_named : Int32 → M Int32) (f_R_names : Int32 → M Int32) (f_R_net : Int32 → Int32 → M Int32) (f_R_notes : Int32 → M Int32) (f_R_of : Int32 → Int32 → M Int32) (f_R_pair : Int32 → Int32 → Int32 → M Int32) (f_R_person : Int32 → Int32 → M Int32) (f_R_persons : Int32 → Int32 → M Int32) (f_R_says : Int32 → Int32 → Int32 → M Int32) (f_R_set : Int32 → Int32 → Int32 → M Int32) (f_R_settled : Int32 → M Int32) (f_R_sighted : Int32 → Int32 → M Int32) (f_R_speakers : Int32 → M Int32) (f_R_state : Int32 → M Int32) (f_R_street : Int32 → Int32 → M Int32) (f_R_swings : Int32 → Int32 → M Int32) (f_R_text : Int32 → M Int32) (f_R_undo : M Int32) (f_R_vote : Int32 → M Int32) (f_R_who : Int32 → Int32 → M Int32) (k_1533 : Int32 → M ((Int32) ⊕ (Int32))) (x3 : Int32) : wf (β := (Int32) ⊕ (Int32)) L X q_L_law 2 (cs_L_law f_A_act f_A_alias f_A_bed f_A_beds f_A_birthdays f_A_book f_A_boot f_A_box f_A_end f_A_fault f_A_feed f_A_game f_A_goes f_A_hoop f_A_hours f_A_image f_A_keeps f_A_least f_A_letter f_A_loan f_A_look f_A_named f_A_names f_A_net f_A_notes f_A_of f_A_pair f_A_person f_A_persons f_A_says f_A_set f_A_settled f_A_sighted f_A_speakers f_A_state f_A_street f_A_swings f_A_text f_A_undo f_A_vote f_A_who f_R_act f_R_alias f_R_bed f_R_beds f_R_birthdays f_R_book f_R_boot f_R_box f_R_end f_R_fault f_R_feed f_R_game f_R_goes f_R_hoop f_R_hours f_R_image f_R_keeps f_R_least f_R_letter f_R_loan f_R_look f_R_named f_R_names f_R_net f_R_notes f_R_of f_R_pair f_R_person f_R_persons f_R_says f_R_set f_R_settled f_R_sighted f_R_speakers f_R_state f_R_street f_R_swings f_R_text f_R_undo f_R_vote f_R_who) [] [18, 212, 235, 268, 311, 354, 397, 420, 483, 506, 529, 552, 585, 618, 651, 684, 717, 740, 773, 806, 865, 888, 947, 970, 993, 1026, 1049, 1092, 1125, 1148, 1171, 1204, 1227, 1250, 1273, 1306, 1349, 1392, 1415, 1458, 1471, 1510, 1533] (fun pc ls st => mC (Nat.beq pc 1533) (mN st <| k_1533 x3) (fl)) (fun v => match v with | some (_, .int x) => rt (.inr x) | _ => fl) 1072 773 [(9997, .ref 1000000), (111, .ref 0), (112, .ref 207), (0, .int x3)] [] = (bn (gd (inR (x3 + (1 : Int32)) L)) fun _ =>
  bn (gd (inR (x3 + (2 : Int32)) L)) fun _ =>
  bn (f_A_persons (X ((x3 + (1 : Int32))).toNatClampNeg) (X ((x3 + (2 : Int32))).toNatClampNeg)) fun v1 =>
  bn (gd (inR (x3 + (1 : Int32)) L)) fun _ =>
  bn (gd (inR (x3 + (2 : Int32)) L)) fun _ =>
  bn (f_R_persons (X ((x3 + (1 : Int32))).toNatClampNeg) (X ((x3 + (2 : Int32))).toNatClampNeg)) fun v2 =>
  (if v1 = v2 then
    k_1533 x3
  else
    bn (gdZ (0 : Int32)) fun _ => rt (.inr (0 : Int32)))) := rfl
theorem s_L_law_773 {d : Nat} (L : Nat) (X : Nat → Int32) (hcs : AllS L X d (cs_L_law F_A_act F_A_alias F_A_bed F_A_beds F_A_birthdays F_A_book F_A_boot F_A_box F_A_end F_A_fault F_A_feed F_A_game F_A_goes F_A_hoop F_A_hours F_A_image F_A_keeps F_A_least F_A_letter F_A_loan F_A_look F_A_named F_A_names F_A_net F_A_notes F_A_of F_A_pair F_A_person F_A_persons F_A_says F_A_set F_A_settled F_A_sighted F_A_speakers F_A_state F_A_street F_A_swings F_A_text F_A_undo F_A_vote F_A_who F_R_act F_R_alias F_R_bed F_R_beds F_R_birthdays F_R_book F_R_boot F_R_box F_R_end F_R_fault F_R_feed F_R_game F_R_goes F_R_hoop F_R_hours F_R_image F_R_keeps F_R_least F_R_letter F_R_loan F_R_look F_R_named F_R_names F_R_net F_R_notes F_R_of F_R_pair F_R_person F_R_persons F_R_says F_R_set F_R_settled F_R_sighted F_R_speakers F_R_state F_R_street F_R_swings F_R_text F_R_undo F_R_vote F_R_who)) (x3 : Int32) {o : Option Value × PH} {Q : ((Int32) ⊕ (Int32)) → MI → Prop} (qb : ∀ y I, Q (.inl y) I → At L X (d + 1) 331 18 [(9997, .ref 1000000), (111, .ref 0), (112, .ref 207), (0, .int y)] [] I o) (qr : ∀ v I, Q (.inr v) I → o = (some (.int v), HH I)) (I : MI) (r : (Int32) ⊕ (Int32)) (I1 : MI) (h : K_L_law_773 L X x3 I = some (r, I1)) (hq : Q r I1) : At L X (d + 1) 331 773 [(9997, .ref 1000000), (111, .ref 0), (112, .ref 207), (0, .int x3)] [] I o := by
  refine wf_ok z_L_law hcs ?_ ?_ _ _ _ _ _ ⟨rfl, rfl, rfl, trivial, trivial⟩ trivial (unm_refl _ _) ((congrFun (e_s_L_law_773 (L := L) (X := X) F_A_act F_A_alias F_A_bed F_A_beds F_A_birthdays F_A_book F_A_boot F_A_box F_A_end F_A_fault F_A_feed F_A_game F_A_goes F_A_hoop F_A_hours F_A_image F_A_keeps F_A_least F_A_letter F_A_loan F_A_look F_A_named F_A_names F_A_net F_A_notes F_A_of F_A_pair F_A_person F_A_persons F_A_says F_A_set F_A_settled F_A_sighted F_A_speakers F_A_state F_A_street F_A_swings F_A_text F_A_undo F_A_vote F_A_who F_R_act F_R_alias F_R_bed F_R_beds F_R_birthdays F_R_book F_R_boot F_R_box F_R_end F_R_fault F_R_feed F_R_game F_R_goes F_R_hoop F_R_hours F_R_image F_R_keeps F_R_least F_R_letter F_R_loan F_R_look F_R_named F_R_names F_R_net F_R_notes F_R_of F_R_pair F_R_person F_R_persons F_R_says F_R_set F_R_settled F_R_sighted F_R_speakers F_R_state F_R_street F_R_swings F_R_text F_R_undo F_R_vote F_R_who (K_L_law_1533 L X) x3) I).trans h)
  · intro pc ls st I2 h1 h2 h3 h
    rcases mC_ok h with ⟨hb, h⟩ | ⟨_, h⟩
    · have e := Nat.eq_of_beq_eq_true hb
      subst e
      obtain ⟨hst, h⟩ := mN_ok h
      subst hst
      refine at_leaf (ls2 := [(9997, .ref 1000000), (111, .ref 0), (112, .ref 207), (0, .int x3)]) h3.1 ⟨Or.inr ⟨_, (h3.2 0 rfl).trans rfl⟩, Or.inr ⟨_, (h3.2 1 rfl).trans rfl⟩, Or.inr ⟨_, (h3.2 2 rfl).trans rfl⟩, Or.inr ⟨_, (h3.2 3 rfl).trans rfl⟩, trivial⟩ ?_
      exact s_L_law_1533 L X hcs x3 qb qr _ _ _ h hq
    cases h
  · intro v I2 _ h
    split at h
    · cases h; exact qr _ _ hq
    · cases h
def K_L_law_806 (L : Nat) (X : Nat → Int32) (x3 : Int32) : M ((Int32) ⊕ (Int32)) :=
  bn (gd (inR (x3 + (1 : Int32)) L)) fun _ =>
  bn (gd (inR (x3 + (2 : Int32)) L)) fun _ =>
  bn (gd (inR (x3 + (3 : Int32)) L)) fun _ =>
  (if (X ((x3 + (3 : Int32))).toNatClampNeg) = 0 then
    bn (F_A_pair (X ((x3 + (1 : Int32))).toNatClampNeg) (X ((x3 + (2 : Int32))).toNatClampNeg) (0 : Int32)) fun v1 =>
    bn (gd (inR (x3 + (1 : Int32)) L)) fun _ =>
    bn (gd (inR (x3 + (2 : Int32)) L)) fun _ =>
    bn (gd (inR (x3 + (3 : Int32)) L)) fun _ =>
    (if (X ((x3 + (3 : Int32))).toNatClampNeg) = 0 then
      bn (F_R_pair (X ((x3 + (1 : Int32))).toNatClampNeg) (X ((x3 + (2 : Int32))).toNatClampNeg) (0 : Int32)) fun v2 =>
      (if v1 = v2 then
        K_L_law_1533 L X x3
      else
        bn (gdZ (0 : Int32)) fun _ => rt (.inr (0 : Int32)))
    else
      bn (F_R_pair (X ((x3 + (1 : Int32))).toNatClampNeg) (X ((x3 + (2 : Int32))).toNatClampNeg) (1 : Int32)) fun v3 =>
      (if v1 = v3 then
        K_L_law_1533 L X x3
      else
        bn (gdZ (0 : Int32)) fun _ => rt (.inr (0 : Int32))))
  else
    bn (F_A_pair (X ((x3 + (1 : Int32))).toNatClampNeg) (X ((x3 + (2 : Int32))).toNatClampNeg) (1 : Int32)) fun v4 =>
    bn (gd (inR (x3 + (1 : Int32)) L)) fun _ =>
    bn (gd (inR (x3 + (2 : Int32)) L)) fun _ =>
    bn (gd (inR (x3 + (3 : Int32)) L)) fun _ =>
    (if (X ((x3 + (3 : Int32))).toNatClampNeg) = 0 then
      bn (F_R_pair (X ((x3 + (1 : Int32))).toNatClampNeg) (X ((x3 + (2 : Int32))).toNatClampNeg) (0 : Int32)) fun v5 =>
      (if v4 = v5 then
        K_L_law_1533 L X x3
      else
        bn (gdZ (0 : Int32)) fun _ => rt (.inr (0 : Int32)))
    else
      bn (F_R_pair (X ((x3 + (1 : Int32))).toNatClampNeg) (X ((x3 + (2 : Int32))).toNatClampNeg) (1 : Int32)) fun v6 =>
      (if v4 = v6 then
        K_L_law_1533 L X x3
      else
        bn (gdZ (0 : Int32)) fun _ => rt (.inr (0 : Int32)))))
set_option maxRecDepth 4000 in
theorem e_s_L_law_806 (f_A_act : Int32 → Int32 → Int32 → M Int32) (f_A_alias : Int32 → Int32 → Int32 → M Int32) (f_A_bed : Int32 → Int32 → M Int32) (f_A_beds : Int32 → M Int32) (f_A_birthdays : Int32 → Int32 → Int32 → M Int32) (f_A_book : Int32 → Int32 → M Int32) (f_A_boot : Int32 → M Int32) (f_A_box : Int32 → M Int32) (f_A_end : Int32 → M Int32) (f_A_fault : Int32 → M Int32) (f_A_feed : Int32 → Int32 → Int32 → Int32 → Int32 → M Int32) (f_A_game : Int32 → Int32 → Int32 → M Int32) (f_A_goes : Int32 → Int32 → M Int32) (f_A_hoop : Int32 → Int32 → Int32 → M Int32) (f_A_hours : Int32 → M Int32) (f_A_image : Int32 → M Int32) (f_A_keeps : Int32 → M Int32) (f_A_least : Int32 → M Int32) (f_A_letter : Int32 → Int32 → M Int32) (f_A_loan : Int32 → Int32 → Int32 → M Int32) (f_A_look : Int32 → M Int32) (f_A_named : Int32 → M Int32) (f_A_names : Int32 → M Int32) (f_A_net : Int32 → Int32 → M Int32) (f_A_notes : Int32 → M Int32) (f_A_of : Int32 → Int32 → M Int32) (f_A_pair : Int32 → Int32 → Int32 → M Int32) (f_A_person : Int32 → Int32 → M Int32) (f_A_persons : Int32 → Int32 → M Int32) (f_A_says : Int32 → Int32 → Int32 → M Int32) (f_A_set : Int32 → Int32 → Int32 → M Int32) (f_A_settled : Int32 → M Int32) (f_A_sighted : Int32 → Int32 → M Int32) (f_A_speakers : Int32 → M Int32) (f_A_state : Int32 → M Int32) (f_A_street : Int32 → Int32 → M Int32) (f_A_swings : Int32 → Int32 → M Int32) (f_A_text : Int32 → M Int32) (f_A_undo : M Int32) (f_A_vote : Int32 → M Int32) (f_A_who : Int32 → Int32 → M Int32) (f_R_act : Int32 → Int32 → Int32 → M Int32) (f_R_alias : Int32 → Int32 → Int32 → M Int32) (f_R_bed : Int32 → Int32 → M Int32) (f_R_beds : Int32 → M Int32) (f_R_birthdays : Int32 → Int32 → Int32 → M Int32) (f_R_book : Int32 → Int32 → M Int32) (f_R_boot : Int32 → M Int32) (f_R_box : Int32 → M Int32) (f_R_end : Int32 → M Int32) (f_R_fault : Int32 → M Int32) (f_R_feed : Int32 → Int32 → Int32 → Int32 → Int32 → M Int32) (f_R_game : Int32 → Int32 → Int32 → M Int32) (f_R_goes : Int32 → Int32 → M Int32) (f_R_hoop : Int32 → Int32 → Int32 → M Int32) (f_R_hours : Int32 → M Int32) (f_R_image : Int32 → M Int32) (f_R_keeps : Int32 → M Int32) (f_R_least : Int32 → M Int32) (f_R_letter : Int32 → Int32 → M Int32) (f_R_loan : Int32 → Int32 → Int32 → M Int32) (f_R_look : Int32 → M Int32) (f_R_named : Int32 → M Int32) (f_R_names : Int32 → M Int32) (f_R_net : Int32 → Int32 → M Int32) (f_R_notes : Int32 → M Int32) (f_R_of : Int32 → Int32 → M Int32) (f_R_pair : Int32 → Int32 → Int32 → M Int32) (f_R_person : Int32 → Int32 → M Int32) (f_R_persons : Int32 → Int32 → M Int32) (f_R_says : Int32 → Int32 → Int32 → M Int32) (f_R_set : Int32 → Int32 → Int32 → M Int32) (f_R_settled : Int32 → M Int32) (f_R_sighted : Int32 → Int32 → M Int32) (f_R_speakers : Int32 → M Int32) (f_R_state : Int32 → M Int32) (f_R_street : Int32 → Int32 → M Int32) (f_R_swings : Int32 → Int32 → M Int32) (f_R_text : Int32 → M Int32) (f_R_undo : M Int32) (f_R_vote : Int32 → M Int32) (f_R_who : Int32 → Int32 → M Int32) (k_1533 : Int32 → M ((Int32) ⊕ (Int32))) (x3 : Int32) : wf (β := (Int32) ⊕ (Int32)) L X q_L_law 2 (cs_L_law f_A_act f_A_alias f_A_bed f_A_beds f_A_birthdays f_A_book f_A_boot f_A_box f_A_end f_A_fault f_A_feed f_A_game f_A_goes f_A_hoop f_A_hours f_A_image f_A_keeps f_A_least f_A_letter f_A_loan f_A_look f_A_named f_A_names f_A_net f_A_notes f_A_of f_A_pair f_A_person f_A_persons f_A_says f_A_set f_A_settled f_A_sighted f_A_speakers f_A_state f_A_street f_A_swings f_A_text f_A_undo f_A_vote f_A_who f_R_act f_R_alias f_R_bed f_R_beds f_R_birthdays f_R_book f_R_boot f_R_box f_R_end f_R_fault f_R_feed f_R_game f_R_goes f_R_hoop f_R_hours f_R_image f_R_keeps f_R_least f_R_letter f_R_loan f_R_look f_R_named f_R_names f_R_net f_R_notes f_R_of f_R_pair f_R_person f_R_persons f_R_says f_R_set f_R_settled f_R_sighted f_R_speakers f_R_state f_R_street f_R_swings f_R_text f_R_undo f_R_vote f_R_who) [] [18, 212, 235, 268, 311, 354, 397, 420, 483, 506, 529, 552, 585, 618, 651, 684, 717, 740, 773, 806, 865, 888, 947, 970, 993, 1026, 1049, 1092, 1125, 1148, 1171, 1204, 1227, 1250, 1273, 1306, 1349, 1392, 1415, 1458, 1471, 1510, 1533] (fun pc ls st => mC (Nat.beq pc 1533) (mN st <| k_1533 x3) (fl)) (fun v => match v with | some (_, .int x) => rt (.inr x) | _ => fl) 1072 806 [(9997, .ref 1000000), (111, .ref 0), (112, .ref 207), (0, .int x3)] [] = (bn (gd (inR (x3 + (1 : Int32)) L)) fun _ =>
  bn (gd (inR (x3 + (2 : Int32)) L)) fun _ =>
  bn (gd (inR (x3 + (3 : Int32)) L)) fun _ =>
  (if (X ((x3 + (3 : Int32))).toNatClampNeg) = 0 then
    bn (f_A_pair (X ((x3 + (1 : Int32))).toNatClampNeg) (X ((x3 + (2 : Int32))).toNatClampNeg) (0 : Int32)) fun v1 =>
    bn (gd (inR (x3 + (1 : Int32)) L)) fun _ =>
    bn (gd (inR (x3 + (2 : Int32)) L)) fun _ =>
    bn (gd (inR (x3 + (3 : Int32)) L)) fun _ =>
    (if (X ((x3 + (3 : Int32))).toNatClampNeg) = 0 then
      bn (f_R_pair (X ((x3 + (1 : Int32))).toNatClampNeg) (X ((x3 + (2 : Int32))).toNatClampNeg) (0 : Int32)) fun v2 =>
      (if v1 = v2 then
        k_1533 x3
      else
        bn (gdZ (0 : Int32)) fun _ => rt (.inr (0 : Int32)))
    else
      bn (f_R_pair (X ((x3 + (1 : Int32))).toNatClampNeg) (X ((x3 + (2 : Int32))).toNatClampNeg) (1 : Int32)) fun v3 =>
      (if v1 = v3 then
        k_1533 x3
      else
        bn (gdZ (0 : Int32)) fun _ => rt (.inr (0 : Int32))))
  else
    bn (f_A_pair (X ((x3 + (1 : Int32))).toNatClampNeg) (X ((x3 + (2 : Int32))).toNatClampNeg) (1 : Int32)) fun v4 =>
    bn (gd (inR (x3 + (1 : Int32)) L)) fun _ =>
    bn (gd (inR (x3 + (2 : Int32)) L)) fun _ =>
    bn (gd (inR (x3 + (3 : Int32)) L)) fun _ =>
    (if (X ((x3 + (3 : Int32))).toNatClampNeg) = 0 then
      bn (f_R_pair (X ((x3 + (1 : Int32))).toNatClampNeg) (X ((x3 + (2 : Int32))).toNatClampNeg) (0 : Int32)) fun v5 =>
      (if v4 = v5 then
        k_1533 x3
      else
        bn (gdZ (0 : Int32)) fun _ => rt (.inr (0 : Int32)))
    else
      bn (f_R_pair (X ((x3 + (1 : Int32))).toNatClampNeg) (X ((x3 + (2 : Int32))).toNatClampNeg) (1 : Int32)) fun v6 =>
      (if v4 = v6 then
        k_1533 x3
      else
        bn (gdZ (0 : Int32)) fun _ => rt (.inr (0 : Int32)))))) := rfl
theorem s_L_law_806 {d : Nat} (L : Nat) (X : Nat → Int32) (hcs : AllS L X d (cs_L_law F_A_act F_A_alias F_A_bed F_A_beds F_A_birthdays F_A_book F_A_boot F_A_box F_A_end F_A_fault F_A_feed F_A_game F_A_goes F_A_hoop F_A_hours F_A_image F_A_keeps F_A_least F_A_letter F_A_loan F_A_look F_A_named F_A_names F_A_net F_A_notes F_A_of F_A_pair F_A_person F_A_persons F_A_says F_A_set F_A_settled F_A_sighted F_A_speakers F_A_state F_A_street F_A_swings F_A_text F_A_undo F_A_vote F_A_who F_R_act F_R_alias F_R_bed F_R_beds F_R_birthdays F_R_book F_R_boot F_R_box F_R_end F_R_fault F_R_feed F_R_game F_R_goes F_R_hoop F_R_hours F_R_image F_R_keeps F_R_least F_R_letter F_R_loan F_R_look F_R_named F_R_names F_R_net F_R_notes F_R_of F_R_pair F_R_person F_R_persons F_R_says F_R_set F_R_settled F_R_sighted F_R_speakers F_R_state F_R_street F_R_swings F_R_text F_R_undo F_R_vote F_R_who)) (x3 : Int32) {o : Option Value × PH} {Q : ((Int32) ⊕ (Int32)) → MI → Prop} (qb : ∀ y I, Q (.inl y) I → At L X (d + 1) 331 18 [(9997, .ref 1000000), (111, .ref 0), (112, .ref 207), (0, .int y)] [] I o) (qr : ∀ v I, Q (.inr v) I → o = (some (.int v), HH I)) (I : MI) (r : (Int32) ⊕ (Int32)) (I1 : MI) (h : K_L_law_806 L X x3 I = some (r, I1)) (hq : Q r I1) : At L X (d + 1) 331 806 [(9997, .ref 1000000), (111, .ref 0), (112, .ref 207), (0, .int x3)] [] I o := by
  refine wf_ok z_L_law hcs ?_ ?_ _ _ _ _ _ ⟨rfl, rfl, rfl, trivial, trivial⟩ trivial (unm_refl _ _) ((congrFun (e_s_L_law_806 (L := L) (X := X) F_A_act F_A_alias F_A_bed F_A_beds F_A_birthdays F_A_book F_A_boot F_A_box F_A_end F_A_fault F_A_feed F_A_game F_A_goes F_A_hoop F_A_hours F_A_image F_A_keeps F_A_least F_A_letter F_A_loan F_A_look F_A_named F_A_names F_A_net F_A_notes F_A_of F_A_pair F_A_person F_A_persons F_A_says F_A_set F_A_settled F_A_sighted F_A_speakers F_A_state F_A_street F_A_swings F_A_text F_A_undo F_A_vote F_A_who F_R_act F_R_alias F_R_bed F_R_beds F_R_birthdays F_R_book F_R_boot F_R_box F_R_end F_R_fault F_R_feed F_R_game F_R_goes F_R_hoop F_R_hours F_R_image F_R_keeps F_R_least F_R_letter F_R_loan F_R_look F_R_named F_R_names F_R_net F_R_notes F_R_of F_R_pair F_R_person F_R_persons F_R_says F_R_set F_R_settled F_R_sighted F_R_speakers F_R_state F_R_street F_R_swings F_R_text F_R_undo F_R_vote F_R_who (K_L_law_1533 L X) x3) I).trans h)
  · intro pc ls st I2 h1 h2 h3 h
    rcases mC_ok h with ⟨hb, h⟩ | ⟨_, h⟩
    · have e := Nat.eq_of_beq_eq_true hb
      subst e
      obtain ⟨hst, h⟩ := mN_ok h
      subst hst
      refine at_leaf (ls2 := [(9997, .ref 1000000), (111, .ref 0), (112, .ref 207), (0, .int x3)]) h3.1 ⟨Or.inr ⟨_, (h3.2 0 rfl).trans rfl⟩, Or.inr ⟨_, (h3.2 1 rfl).trans rfl⟩, Or.inr ⟨_, (h3.2 2 rfl).trans rfl⟩, Or.inr ⟨_, (h3.2 3 rfl).trans rfl⟩, trivial⟩ ?_
      exact s_L_law_1533 L X hcs x3 qb qr _ _ _ h hq
    cases h
  · intro v I2 _ h
    split at h
    · cases h; exact qr _ _ hq
    · cases h
def K_L_law_865 (L : Nat) (X : Nat → Int32) (x3 : Int32) : M ((Int32) ⊕ (Int32)) :=
  bn (gd (inR (x3 + (1 : Int32)) L)) fun _ =>
  bn (F_A_names (X ((x3 + (1 : Int32))).toNatClampNeg)) fun v1 =>
  bn (gd (inR (x3 + (1 : Int32)) L)) fun _ =>
  bn (F_R_names (X ((x3 + (1 : Int32))).toNatClampNeg)) fun v2 =>
  (if v1 = v2 then
    K_L_law_1533 L X x3
  else
    bn (gdZ (0 : Int32)) fun _ => rt (.inr (0 : Int32)))
set_option maxRecDepth 4000 in
theorem e_s_L_law_865 (f_A_act : Int32 → Int32 → Int32 → M Int32) (f_A_alias : Int32 → Int32 → Int32 → M Int32) (f_A_bed : Int32 → Int32 → M Int32) (f_A_beds : Int32 → M Int32) (f_A_birthdays : Int32 → Int32 → Int32 → M Int32) (f_A_book : Int32 → Int32 → M Int32) (f_A_boot : Int32 → M Int32) (f_A_box : Int32 → M Int32) (f_A_end : Int32 → M Int32) (f_A_fault : Int32 → M Int32) (f_A_feed : Int32 → Int32 → Int32 → Int32 → Int32 → M Int32) (f_A_game : Int32 → Int32 → Int32 → M Int32) (f_A_goes : Int32 → Int32 → M Int32) (f_A_hoop : Int32 → Int32 → Int32 → M Int32) (f_A_hours : Int32 → M Int32) (f_A_image : Int32 → M Int32) (f_A_keeps : Int32 → M Int32) (f_A_least : Int32 → M Int32) (f_A_letter : Int32 → Int32 → M Int32) (f_A_loan : Int32 → Int32 → Int32 → M Int32) (f_A_look : Int32 → M Int32) (f_A_named : Int32 → M Int32) (f_A_names : Int32 → M Int32) (f_A_net : Int32 → Int32 → M Int32) (f_A_notes : Int32 → M Int32) (f_A_of : Int32 → Int32 → M Int32) (f_A_pair : Int32 → Int32 → Int32 → M Int32) (f_A_person : Int32 → Int32 → M Int32) (f_A_persons : Int32 → Int32 → M Int32) (f_A_says : Int32 → Int32 → Int32 → M Int32) (f_A_set : Int32 → Int32 → Int32 → M Int32) (f_A_settled : Int32 → M Int32) (f_A_sighted : Int32 → Int32 → M Int32) (f_A_speakers : Int32 → M Int32) (f_A_state : Int32 → M Int32) (f_A_street : Int32 → Int32 → M Int32) (f_A_swings : Int32 → Int32 → M Int32) (f_A_text : Int32 → M Int32) (f_A_undo : M Int32) (f_A_vote : Int32 → M Int32) (f_A_who : Int32 → Int32 → M Int32) (f_R_act : Int32 → Int32 → Int32 → M Int32) (f_R_alias : Int32 → Int32 → Int32 → M Int32) (f_R_bed : Int32 → Int32 → M Int32) (f_R_beds : Int32 → M Int32) (f_R_birthdays : Int32 → Int32 → Int32 → M Int32) (f_R_book : Int32 → Int32 → M Int32) (f_R_boot : Int32 → M Int32) (f_R_box : Int32 → M Int32) (f_R_end : Int32 → M Int32) (f_R_fault : Int32 → M Int32) (f_R_feed : Int32 → Int32 → Int32 → Int32 → Int32 → M Int32) (f_R_game : Int32 → Int32 → Int32 → M Int32) (f_R_goes : Int32 → Int32 → M Int32) (f_R_hoop : Int32 → Int32 → Int32 → M Int32) (f_R_hours : Int32 → M Int32) (f_R_image : Int32 → M Int32) (f_R_keeps : Int32 → M Int32) (f_R_least : Int32 → M Int32) (f_R_letter : Int32 → Int32 → M Int32) (f_R_loan : Int32 → Int32 → Int32 → M Int32) (f_R_look : Int32 → M Int32) (f_R_named : Int32 → M Int32) (f_R_names : Int32 → M Int32) (f_R_net : Int32 → Int32 → M Int32) (f_R_notes : Int32 → M Int32) (f_R_of : Int32 → Int32 → M Int32) (f_R_pair : Int32 → Int32 → Int32 → M Int32) (f_R_person : Int32 → Int32 → M Int32) (f_R_persons : Int32 → Int32 → M Int32) (f_R_says : Int32 → Int32 → Int32 → M Int32) (f_R_set : Int32 → Int32 → Int32 → M Int32) (f_R_settled : Int32 → M Int32) (f_R_sighted : Int32 → Int32 → M Int32) (f_R_speakers : Int32 → M Int32) (f_R_state : Int32 → M Int32) (f_R_street : Int32 → Int32 → M Int32) (f_R_swings : Int32 → Int32 → M Int32) (f_R_text : Int32 → M Int32) (f_R_undo : M Int32) (f_R_vote : Int32 → M Int32) (f_R_who : Int32 → Int32 → M Int32) (k_1533 : Int32 → M ((Int32) ⊕ (Int32))) (x3 : Int32) : wf (β := (Int32) ⊕ (Int32)) L X q_L_law 2 (cs_L_law f_A_act f_A_alias f_A_bed f_A_beds f_A_birthdays f_A_book f_A_boot f_A_box f_A_end f_A_fault f_A_feed f_A_game f_A_goes f_A_hoop f_A_hours f_A_image f_A_keeps f_A_least f_A_letter f_A_loan f_A_look f_A_named f_A_names f_A_net f_A_notes f_A_of f_A_pair f_A_person f_A_persons f_A_says f_A_set f_A_settled f_A_sighted f_A_speakers f_A_state f_A_street f_A_swings f_A_text f_A_undo f_A_vote f_A_who f_R_act f_R_alias f_R_bed f_R_beds f_R_birthdays f_R_book f_R_boot f_R_box f_R_end f_R_fault f_R_feed f_R_game f_R_goes f_R_hoop f_R_hours f_R_image f_R_keeps f_R_least f_R_letter f_R_loan f_R_look f_R_named f_R_names f_R_net f_R_notes f_R_of f_R_pair f_R_person f_R_persons f_R_says f_R_set f_R_settled f_R_sighted f_R_speakers f_R_state f_R_street f_R_swings f_R_text f_R_undo f_R_vote f_R_who) [] [18, 212, 235, 268, 311, 354, 397, 420, 483, 506, 529, 552, 585, 618, 651, 684, 717, 740, 773, 806, 865, 888, 947, 970, 993, 1026, 1049, 1092, 1125, 1148, 1171, 1204, 1227, 1250, 1273, 1306, 1349, 1392, 1415, 1458, 1471, 1510, 1533] (fun pc ls st => mC (Nat.beq pc 1533) (mN st <| k_1533 x3) (fl)) (fun v => match v with | some (_, .int x) => rt (.inr x) | _ => fl) 1072 865 [(9997, .ref 1000000), (111, .ref 0), (112, .ref 207), (0, .int x3)] [] = (bn (gd (inR (x3 + (1 : Int32)) L)) fun _ =>
  bn (f_A_names (X ((x3 + (1 : Int32))).toNatClampNeg)) fun v1 =>
  bn (gd (inR (x3 + (1 : Int32)) L)) fun _ =>
  bn (f_R_names (X ((x3 + (1 : Int32))).toNatClampNeg)) fun v2 =>
  (if v1 = v2 then
    k_1533 x3
  else
    bn (gdZ (0 : Int32)) fun _ => rt (.inr (0 : Int32)))) := rfl
theorem s_L_law_865 {d : Nat} (L : Nat) (X : Nat → Int32) (hcs : AllS L X d (cs_L_law F_A_act F_A_alias F_A_bed F_A_beds F_A_birthdays F_A_book F_A_boot F_A_box F_A_end F_A_fault F_A_feed F_A_game F_A_goes F_A_hoop F_A_hours F_A_image F_A_keeps F_A_least F_A_letter F_A_loan F_A_look F_A_named F_A_names F_A_net F_A_notes F_A_of F_A_pair F_A_person F_A_persons F_A_says F_A_set F_A_settled F_A_sighted F_A_speakers F_A_state F_A_street F_A_swings F_A_text F_A_undo F_A_vote F_A_who F_R_act F_R_alias F_R_bed F_R_beds F_R_birthdays F_R_book F_R_boot F_R_box F_R_end F_R_fault F_R_feed F_R_game F_R_goes F_R_hoop F_R_hours F_R_image F_R_keeps F_R_least F_R_letter F_R_loan F_R_look F_R_named F_R_names F_R_net F_R_notes F_R_of F_R_pair F_R_person F_R_persons F_R_says F_R_set F_R_settled F_R_sighted F_R_speakers F_R_state F_R_street F_R_swings F_R_text F_R_undo F_R_vote F_R_who)) (x3 : Int32) {o : Option Value × PH} {Q : ((Int32) ⊕ (Int32)) → MI → Prop} (qb : ∀ y I, Q (.inl y) I → At L X (d + 1) 331 18 [(9997, .ref 1000000), (111, .ref 0), (112, .ref 207), (0, .int y)] [] I o) (qr : ∀ v I, Q (.inr v) I → o = (some (.int v), HH I)) (I : MI) (r : (Int32) ⊕ (Int32)) (I1 : MI) (h : K_L_law_865 L X x3 I = some (r, I1)) (hq : Q r I1) : At L X (d + 1) 331 865 [(9997, .ref 1000000), (111, .ref 0), (112, .ref 207), (0, .int x3)] [] I o := by
  refine wf_ok z_L_law hcs ?_ ?_ _ _ _ _ _ ⟨rfl, rfl, rfl, trivial, trivial⟩ trivial (unm_refl _ _) ((congrFun (e_s_L_law_865 (L := L) (X := X) F_A_act F_A_alias F_A_bed F_A_beds F_A_birthdays F_A_book F_A_boot F_A_box F_A_end F_A_fault F_A_feed F_A_game F_A_goes F_A_hoop F_A_hours F_A_image F_A_keeps F_A_least F_A_letter F_A_loan F_A_look F_A_named F_A_names F_A_net F_A_notes F_A_of F_A_pair F_A_person F_A_persons F_A_says F_A_set F_A_settled F_A_sighted F_A_speakers F_A_state F_A_street F_A_swings F_A_text F_A_undo F_A_vote F_A_who F_R_act F_R_alias F_R_bed F_R_beds F_R_birthdays F_R_book F_R_boot F_R_box F_R_end F_R_fault F_R_feed F_R_game F_R_goes F_R_hoop F_R_hours F_R_image F_R_keeps F_R_least F_R_letter F_R_loan F_R_look F_R_named F_R_names F_R_net F_R_notes F_R_of F_R_pair F_R_person F_R_persons F_R_says F_R_set F_R_settled F_R_sighted F_R_speakers F_R_state F_R_street F_R_swings F_R_text F_R_undo F_R_vote F_R_who (K_L_law_1533 L X) x3) I).trans h)
  · intro pc ls st I2 h1 h2 h3 h
    rcases mC_ok h with ⟨hb, h⟩ | ⟨_, h⟩
    · have e := Nat.eq_of_beq_eq_true hb
      subst e
      obtain ⟨hst, h⟩ := mN_ok h
      subst hst
      refine at_leaf (ls2 := [(9997, .ref 1000000), (111, .ref 0), (112, .ref 207), (0, .int x3)]) h3.1 ⟨Or.inr ⟨_, (h3.2 0 rfl).trans rfl⟩, Or.inr ⟨_, (h3.2 1 rfl).trans rfl⟩, Or.inr ⟨_, (h3.2 2 rfl).trans rfl⟩, Or.inr ⟨_, (h3.2 3 rfl).trans rfl⟩, trivial⟩ ?_
      exact s_L_law_1533 L X hcs x3 qb qr _ _ _ h hq
    cases h
  · intro v I2 _ h
    split at h
    · cases h; exact qr _ _ hq
    · cases h
def K_L_law_888 (L : Nat) (X : Nat → Int32) (x3 : Int32) : M ((Int32) ⊕ (Int32)) :=
  bn (gd (inR (x3 + (1 : Int32)) L)) fun _ =>
  bn (gd (inR (x3 + (2 : Int32)) L)) fun _ =>
  bn (gd (inR (x3 + (3 : Int32)) L)) fun _ =>
  (if (X ((x3 + (3 : Int32))).toNatClampNeg) = 0 then
    bn (F_A_says (X ((x3 + (1 : Int32))).toNatClampNeg) (X ((x3 + (2 : Int32))).toNatClampNeg) (0 : Int32)) fun v1 =>
    bn (gd (inR (x3 + (1 : Int32)) L)) fun _ =>
    bn (gd (inR (x3 + (2 : Int32)) L)) fun _ =>
    bn (gd (inR (x3 + (3 : Int32)) L)) fun _ =>
    (if (X ((x3 + (3 : Int32))).toNatClampNeg) = 0 then
      bn (F_R_says (X ((x3 + (1 : Int32))).toNatClampNeg) (X ((x3 + (2 : Int32))).toNatClampNeg) (0 : Int32)) fun v2 =>
      (if v1 = v2 then
        K_L_law_1533 L X x3
      else
        bn (gdZ (0 : Int32)) fun _ => rt (.inr (0 : Int32)))
    else
      bn (F_R_says (X ((x3 + (1 : Int32))).toNatClampNeg) (X ((x3 + (2 : Int32))).toNatClampNeg) (1 : Int32)) fun v3 =>
      (if v1 = v3 then
        K_L_law_1533 L X x3
      else
        bn (gdZ (0 : Int32)) fun _ => rt (.inr (0 : Int32))))
  else
    bn (F_A_says (X ((x3 + (1 : Int32))).toNatClampNeg) (X ((x3 + (2 : Int32))).toNatClampNeg) (1 : Int32)) fun v4 =>
    bn (gd (inR (x3 + (1 : Int32)) L)) fun _ =>
    bn (gd (inR (x3 + (2 : Int32)) L)) fun _ =>
    bn (gd (inR (x3 + (3 : Int32)) L)) fun _ =>
    (if (X ((x3 + (3 : Int32))).toNatClampNeg) = 0 then
      bn (F_R_says (X ((x3 + (1 : Int32))).toNatClampNeg) (X ((x3 + (2 : Int32))).toNatClampNeg) (0 : Int32)) fun v5 =>
      (if v4 = v5 then
        K_L_law_1533 L X x3
      else
        bn (gdZ (0 : Int32)) fun _ => rt (.inr (0 : Int32)))
    else
      bn (F_R_says (X ((x3 + (1 : Int32))).toNatClampNeg) (X ((x3 + (2 : Int32))).toNatClampNeg) (1 : Int32)) fun v6 =>
      (if v4 = v6 then
        K_L_law_1533 L X x3
      else
        bn (gdZ (0 : Int32)) fun _ => rt (.inr (0 : Int32)))))
set_option maxRecDepth 4000 in
theorem e_s_L_law_888 (f_A_act : Int32 → Int32 → Int32 → M Int32) (f_A_alias : Int32 → Int32 → Int32 → M Int32) (f_A_bed : Int32 → Int32 → M Int32) (f_A_beds : Int32 → M Int32) (f_A_birthdays : Int32 → Int32 → Int32 → M Int32) (f_A_book : Int32 → Int32 → M Int32) (f_A_boot : Int32 → M Int32) (f_A_box : Int32 → M Int32) (f_A_end : Int32 → M Int32) (f_A_fault : Int32 → M Int32) (f_A_feed : Int32 → Int32 → Int32 → Int32 → Int32 → M Int32) (f_A_game : Int32 → Int32 → Int32 → M Int32) (f_A_goes : Int32 → Int32 → M Int32) (f_A_hoop : Int32 → Int32 → Int32 → M Int32) (f_A_hours : Int32 → M Int32) (f_A_image : Int32 → M Int32) (f_A_keeps : Int32 → M Int32) (f_A_least : Int32 → M Int32) (f_A_letter : Int32 → Int32 → M Int32) (f_A_loan : Int32 → Int32 → Int32 → M Int32) (f_A_look : Int32 → M Int32) (f_A_named : Int32 → M Int32) (f_A_names : Int32 → M Int32) (f_A_net : Int32 → Int32 → M Int32) (f_A_notes : Int32 → M Int32) (f_A_of : Int32 → Int32 → M Int32) (f_A_pair : Int32 → Int32 → Int32 → M Int32) (f_A_person : Int32 → Int32 → M Int32) (f_A_persons : Int32 → Int32 → M Int32) (f_A_says : Int32 → Int32 → Int32 → M Int32) (f_A_set : Int32 → Int32 → Int32 → M Int32) (f_A_settled : Int32 → M Int32) (f_A_sighted : Int32 → Int32 → M Int32) (f_A_speakers : Int32 → M Int32) (f_A_state : Int32 → M Int32) (f_A_street : Int32 → Int32 → M Int32) (f_A_swings : Int32 → Int32 → M Int32) (f_A_text : Int32 → M Int32) (f_A_undo : M Int32) (f_A_vote : Int32 → M Int32) (f_A_who : Int32 → Int32 → M Int32) (f_R_act : Int32 → Int32 → Int32 → M Int32) (f_R_alias : Int32 → Int32 → Int32 → M Int32) (f_R_bed : Int32 → Int32 → M Int32) (f_R_beds : Int32 → M Int32) (f_R_birthdays : Int32 → Int32 → Int32 → M Int32) (f_R_book : Int32 → Int32 → M Int32) (f_R_boot : Int32 → M Int32) (f_R_box : Int32 → M Int32) (f_R_end : Int32 → M Int32) (f_R_fault : Int32 → M Int32) (f_R_feed : Int32 → Int32 → Int32 → Int32 → Int32 → M Int32) (f_R_game : Int32 → Int32 → Int32 → M Int32) (f_R_goes : Int32 → Int32 → M Int32) (f_R_hoop : Int32 → Int32 → Int32 → M Int32) (f_R_hours : Int32 → M Int32) (f_R_image : Int32 → M Int32) (f_R_keeps : Int32 → M Int32) (f_R_least : Int32 → M Int32) (f_R_letter : Int32 → Int32 → M Int32) (f_R_loan : Int32 → Int32 → Int32 → M Int32) (f_R_look : Int32 → M Int32) (f_R_named : Int32 → M Int32) (f_R_names : Int32 → M Int32) (f_R_net : Int32 → Int32 → M Int32) (f_R_notes : Int32 → M Int32) (f_R_of : Int32 → Int32 → M Int32) (f_R_pair : Int32 → Int32 → Int32 → M Int32) (f_R_person : Int32 → Int32 → M Int32) (f_R_persons : Int32 → Int32 → M Int32) (f_R_says : Int32 → Int32 → Int32 → M Int32) (f_R_set : Int32 → Int32 → Int32 → M Int32) (f_R_settled : Int32 → M Int32) (f_R_sighted : Int32 → Int32 → M Int32) (f_R_speakers : Int32 → M Int32) (f_R_state : Int32 → M Int32) (f_R_street : Int32 → Int32 → M Int32) (f_R_swings : Int32 → Int32 → M Int32) (f_R_text : Int32 → M Int32) (f_R_undo : M Int32) (f_R_vote : Int32 → M Int32) (f_R_who : Int32 → Int32 → M Int32) (k_1533 : Int32 → M ((Int32) ⊕ (Int32))) (x3 : Int32) : wf (β := (Int32) ⊕ (Int32)) L X q_L_law 2 (cs_L_law f_A_act f_A_alias f_A_bed f_A_beds f_A_birthdays f_A_book f_A_boot f_A_box f_A_end f_A_fault f_A_feed f_A_game f_A_goes f_A_hoop f_A_hours f_A_image f_A_keeps f_A_least f_A_letter f_A_loan f_A_look f_A_named f_A_names f_A_net f_A_notes f_A_of f_A_pair f_A_person f_A_persons f_A_says f_A_set f_A_settled f_A_sighted f_A_speakers f_A_state f_A_street f_A_swings f_A_text f_A_undo f_A_vote f_A_who f_R_act f_R_alias f_R_bed f_R_beds f_R_birthdays f_R_book f_R_boot f_R_box f_R_end f_R_fault f_R_feed f_R_game f_R_goes f_R_hoop f_R_hours f_R_image f_R_keeps f_R_least f_R_letter f_R_loan f_R_look f_R_named f_R_names f_R_net f_R_notes f_R_of f_R_pair f_R_person f_R_persons f_R_says f_R_set f_R_settled f_R_sighted f_R_speakers f_R_state f_R_street f_R_swings f_R_text f_R_undo f_R_vote f_R_who) [] [18, 212, 235, 268, 311, 354, 397, 420, 483, 506, 529, 552, 585, 618, 651, 684, 717, 740, 773, 806, 865, 888, 947, 970, 993, 1026, 1049, 1092, 1125, 1148, 1171, 1204, 1227, 1250, 1273, 1306, 1349, 1392, 1415, 1458, 1471, 1510, 1533] (fun pc ls st => mC (Nat.beq pc 1533) (mN st <| k_1533 x3) (fl)) (fun v => match v with | some (_, .int x) => rt (.inr x) | _ => fl) 1072 888 [(9997, .ref 1000000), (111, .ref 0), (112, .ref 207), (0, .int x3)] [] = (bn (gd (inR (x3 + (1 : Int32)) L)) fun _ =>
  bn (gd (inR (x3 + (2 : Int32)) L)) fun _ =>
  bn (gd (inR (x3 + (3 : Int32)) L)) fun _ =>
  (if (X ((x3 + (3 : Int32))).toNatClampNeg) = 0 then
    bn (f_A_says (X ((x3 + (1 : Int32))).toNatClampNeg) (X ((x3 + (2 : Int32))).toNatClampNeg) (0 : Int32)) fun v1 =>
    bn (gd (inR (x3 + (1 : Int32)) L)) fun _ =>
    bn (gd (inR (x3 + (2 : Int32)) L)) fun _ =>
    bn (gd (inR (x3 + (3 : Int32)) L)) fun _ =>
    (if (X ((x3 + (3 : Int32))).toNatClampNeg) = 0 then
      bn (f_R_says (X ((x3 + (1 : Int32))).toNatClampNeg) (X ((x3 + (2 : Int32))).toNatClampNeg) (0 : Int32)) fun v2 =>
      (if v1 = v2 then
        k_1533 x3
      else
        bn (gdZ (0 : Int32)) fun _ => rt (.inr (0 : Int32)))
    else
      bn (f_R_says (X ((x3 + (1 : Int32))).toNatClampNeg) (X ((x3 + (2 : Int32))).toNatClampNeg) (1 : Int32)) fun v3 =>
      (if v1 = v3 then
        k_1533 x3
      else
        bn (gdZ (0 : Int32)) fun _ => rt (.inr (0 : Int32))))
  else
    bn (f_A_says (X ((x3 + (1 : Int32))).toNatClampNeg) (X ((x3 + (2 : Int32))).toNatClampNeg) (1 : Int32)) fun v4 =>
    bn (gd (inR (x3 + (1 : Int32)) L)) fun _ =>
    bn (gd (inR (x3 + (2 : Int32)) L)) fun _ =>
    bn (gd (inR (x3 + (3 : Int32)) L)) fun _ =>
    (if (X ((x3 + (3 : Int32))).toNatClampNeg) = 0 then
      bn (f_R_says (X ((x3 + (1 : Int32))).toNatClampNeg) (X ((x3 + (2 : Int32))).toNatClampNeg) (0 : Int32)) fun v5 =>
      (if v4 = v5 then
        k_1533 x3
      else
        bn (gdZ (0 : Int32)) fun _ => rt (.inr (0 : Int32)))
    else
      bn (f_R_says (X ((x3 + (1 : Int32))).toNatClampNeg) (X ((x3 + (2 : Int32))).toNatClampNeg) (1 : Int32)) fun v6 =>
      (if v4 = v6 then
        k_1533 x3
      else
        bn (gdZ (0 : Int32)) fun _ => rt (.inr (0 : Int32)))))) := rfl
theorem s_L_law_888 {d : Nat} (L : Nat) (X : Nat → Int32) (hcs : AllS L X d (cs_L_law F_A_act F_A_alias F_A_bed F_A_beds F_A_birthdays F_A_book F_A_boot F_A_box F_A_end F_A_fault F_A_feed F_A_game F_A_goes F_A_hoop F_A_hours F_A_image F_A_keeps F_A_least F_A_letter F_A_loan F_A_look F_A_named F_A_names F_A_net F_A_notes F_A_of F_A_pair F_A_person F_A_persons F_A_says F_A_set F_A_settled F_A_sighted F_A_speakers F_A_state F_A_street F_A_swings F_A_text F_A_undo F_A_vote F_A_who F_R_act F_R_alias F_R_bed F_R_beds F_R_birthdays F_R_book F_R_boot F_R_box F_R_end F_R_fault F_R_feed F_R_game F_R_goes F_R_hoop F_R_hours F_R_image F_R_keeps F_R_least F_R_letter F_R_loan F_R_look F_R_named F_R_names F_R_net F_R_notes F_R_of F_R_pair F_R_person F_R_persons F_R_says F_R_set F_R_settled F_R_sighted F_R_speakers F_R_state F_R_street F_R_swings F_R_text F_R_undo F_R_vote F_R_who)) (x3 : Int32) {o : Option Value × PH} {Q : ((Int32) ⊕ (Int32)) → MI → Prop} (qb : ∀ y I, Q (.inl y) I → At L X (d + 1) 331 18 [(9997, .ref 1000000), (111, .ref 0), (112, .ref 207), (0, .int y)] [] I o) (qr : ∀ v I, Q (.inr v) I → o = (some (.int v), HH I)) (I : MI) (r : (Int32) ⊕ (Int32)) (I1 : MI) (h : K_L_law_888 L X x3 I = some (r, I1)) (hq : Q r I1) : At L X (d + 1) 331 888 [(9997, .ref 1000000), (111, .ref 0), (112, .ref 207), (0, .int x3)] [] I o := by
  refine wf_ok z_L_law hcs ?_ ?_ _ _ _ _ _ ⟨rfl, rfl, rfl, trivial, trivial⟩ trivial (unm_refl _ _) ((congrFun (e_s_L_law_888 (L := L) (X := X) F_A_act F_A_alias F_A_bed F_A_beds F_A_birthdays F_A_book F_A_boot F_A_box F_A_end F_A_fault F_A_feed F_A_game F_A_goes F_A_hoop F_A_hours F_A_image F_A_keeps F_A_least F_A_letter F_A_loan F_A_look F_A_named F_A_names F_A_net F_A_notes F_A_of F_A_pair F_A_person F_A_persons F_A_says F_A_set F_A_settled F_A_sighted F_A_speakers F_A_state F_A_street F_A_swings F_A_text F_A_undo F_A_vote F_A_who F_R_act F_R_alias F_R_bed F_R_beds F_R_birthdays F_R_book F_R_boot F_R_box F_R_end F_R_fault F_R_feed F_R_game F_R_goes F_R_hoop F_R_hours F_R_image F_R_keeps F_R_least F_R_letter F_R_loan F_R_look F_R_named F_R_names F_R_net F_R_notes F_R_of F_R_pair F_R_person F_R_persons F_R_says F_R_set F_R_settled F_R_sighted F_R_speakers F_R_state F_R_street F_R_swings F_R_text F_R_undo F_R_vote F_R_who (K_L_law_1533 L X) x3) I).trans h)
  · intro pc ls st I2 h1 h2 h3 h
    rcases mC_ok h with ⟨hb, h⟩ | ⟨_, h⟩
    · have e := Nat.eq_of_beq_eq_true hb
      subst e
      obtain ⟨hst, h⟩ := mN_ok h
      subst hst
      refine at_leaf (ls2 := [(9997, .ref 1000000), (111, .ref 0), (112, .ref 207), (0, .int x3)]) h3.1 ⟨Or.inr ⟨_, (h3.2 0 rfl).trans rfl⟩, Or.inr ⟨_, (h3.2 1 rfl).trans rfl⟩, Or.inr ⟨_, (h3.2 2 rfl).trans rfl⟩, Or.inr ⟨_, (h3.2 3 rfl).trans rfl⟩, trivial⟩ ?_
      exact s_L_law_1533 L X hcs x3 qb qr _ _ _ h hq
    cases h
  · intro v I2 _ h
    split at h
    · cases h; exact qr _ _ hq
    · cases h
def K_L_law_947 (L : Nat) (X : Nat → Int32) (x3 : Int32) : M ((Int32) ⊕ (Int32)) :=
  bn (gd (inR (x3 + (1 : Int32)) L)) fun _ =>
  bn (F_A_speakers (X ((x3 + (1 : Int32))).toNatClampNeg)) fun v1 =>
  bn (gd (inR (x3 + (1 : Int32)) L)) fun _ =>
  bn (F_R_speakers (X ((x3 + (1 : Int32))).toNatClampNeg)) fun v2 =>
  (if v1 = v2 then
    K_L_law_1533 L X x3
  else
    bn (gdZ (0 : Int32)) fun _ => rt (.inr (0 : Int32)))
set_option maxRecDepth 4000 in
theorem e_s_L_law_947 (f_A_act : Int32 → Int32 → Int32 → M Int32) (f_A_alias : Int32 → Int32 → Int32 → M Int32) (f_A_bed : Int32 → Int32 → M Int32) (f_A_beds : Int32 → M Int32) (f_A_birthdays : Int32 → Int32 → Int32 → M Int32) (f_A_book : Int32 → Int32 → M Int32) (f_A_boot : Int32 → M Int32) (f_A_box : Int32 → M Int32) (f_A_end : Int32 → M Int32) (f_A_fault : Int32 → M Int32) (f_A_feed : Int32 → Int32 → Int32 → Int32 → Int32 → M Int32) (f_A_game : Int32 → Int32 → Int32 → M Int32) (f_A_goes : Int32 → Int32 → M Int32) (f_A_hoop : Int32 → Int32 → Int32 → M Int32) (f_A_hours : Int32 → M Int32) (f_A_image : Int32 → M Int32) (f_A_keeps : Int32 → M Int32) (f_A_least : Int32 → M Int32) (f_A_letter : Int32 → Int32 → M Int32) (f_A_loan : Int32 → Int32 → Int32 → M Int32) (f_A_look : Int32 → M Int32) (f_A_named : Int32 → M Int32) (f_A_names : Int32 → M Int32) (f_A_net : Int32 → Int32 → M Int32) (f_A_notes : Int32 → M Int32) (f_A_of : Int32 → Int32 → M Int32) (f_A_pair : Int32 → Int32 → Int32 → M Int32) (f_A_person : Int32 → Int32 → M Int32) (f_A_persons : Int32 → Int32 → M Int32) (f_A_says : Int32 → Int32 → Int32 → M Int32) (f_A_set : Int32 → Int32 → Int32 → M Int32) (f_A_settled : Int32 → M Int32) (f_A_sighted : Int32 → Int32 → M Int32) (f_A_speakers : Int32 → M Int32) (f_A_state : Int32 → M Int32) (f_A_street : Int32 → Int32 → M Int32) (f_A_swings : Int32 → Int32 → M Int32) (f_A_text : Int32 → M Int32) (f_A_undo : M Int32) (f_A_vote : Int32 → M Int32) (f_A_who : Int32 → Int32 → M Int32) (f_R_act : Int32 → Int32 → Int32 → M Int32) (f_R_alias : Int32 → Int32 → Int32 → M Int32) (f_R_bed : Int32 → Int32 → M Int32) (f_R_beds : Int32 → M Int32) (f_R_birthdays : Int32 → Int32 → Int32 → M Int32) (f_R_book : Int32 → Int32 → M Int32) (f_R_boot : Int32 → M Int32) (f_R_box : Int32 → M Int32) (f_R_end : Int32 → M Int32) (f_R_fault : Int32 → M Int32) (f_R_feed : Int32 → Int32 → Int32 → Int32 → Int32 → M Int32) (f_R_game : Int32 → Int32 → Int32 → M Int32) (f_R_goes : Int32 → Int32 → M Int32) (f_R_hoop : Int32 → Int32 → Int32 → M Int32) (f_R_hours : Int32 → M Int32) (f_R_image : Int32 → M Int32) (f_R_keeps : Int32 → M Int32) (f_R_least : Int32 → M Int32) (f_R_letter : Int32 → Int32 → M Int32) (f_R_loan : Int32 → Int32 → Int32 → M Int32) (f_R_look : Int32 → M Int32) (f_R_named : Int32 → M Int32) (f_R_names : Int32 → M Int32) (f_R_net : Int32 → Int32 → M Int32) (f_R_notes : Int32 → M Int32) (f_R_of : Int32 → Int32 → M Int32) (f_R_pair : Int32 → Int32 → Int32 → M Int32) (f_R_person : Int32 → Int32 → M Int32) (f_R_persons : Int32 → Int32 → M Int32) (f_R_says : Int32 → Int32 → Int32 → M Int32) (f_R_set : Int32 → Int32 → Int32 → M Int32) (f_R_settled : Int32 → M Int32) (f_R_sighted : Int32 → Int32 → M Int32) (f_R_speakers : Int32 → M Int32) (f_R_state : Int32 → M Int32) (f_R_street : Int32 → Int32 → M Int32) (f_R_swings : Int32 → Int32 → M Int32) (f_R_text : Int32 → M Int32) (f_R_undo : M Int32) (f_R_vote : Int32 → M Int32) (f_R_who : Int32 → Int32 → M Int32) (k_1533 : Int32 → M ((Int32) ⊕ (Int32))) (x3 : Int32) : wf (β := (Int32) ⊕ (Int32)) L X q_L_law 2 (cs_L_law f_A_act f_A_alias f_A_bed f_A_beds f_A_birthdays f_A_book f_A_boot f_A_box f_A_end f_A_fault f_A_feed f_A_game f_A_goes f_A_hoop f_A_hours f_A_image f_A_keeps f_A_least f_A_letter f_A_loan f_A_look f_A_named f_A_names f_A_net f_A_notes f_A_of f_A_pair f_A_person f_A_persons f_A_says f_A_set f_A_settled f_A_sighted f_A_speakers f_A_state f_A_street f_A_swings f_A_text f_A_undo f_A_vote f_A_who f_R_act f_R_alias f_R_bed f_R_beds f_R_birthdays f_R_book f_R_boot f_R_box f_R_end f_R_fault f_R_feed f_R_game f_R_goes f_R_hoop f_R_hours f_R_image f_R_keeps f_R_least f_R_letter f_R_loan f_R_look f_R_named f_R_names f_R_net f_R_notes f_R_of f_R_pair f_R_person f_R_persons f_R_says f_R_set f_R_settled f_R_sighted f_R_speakers f_R_state f_R_street f_R_swings f_R_text f_R_undo f_R_vote f_R_who) [] [18, 212, 235, 268, 311, 354, 397, 420, 483, 506, 529, 552, 585, 618, 651, 684, 717, 740, 773, 806, 865, 888, 947, 970, 993, 1026, 1049, 1092, 1125, 1148, 1171, 1204, 1227, 1250, 1273, 1306, 1349, 1392, 1415, 1458, 1471, 1510, 1533] (fun pc ls st => mC (Nat.beq pc 1533) (mN st <| k_1533 x3) (fl)) (fun v => match v with | some (_, .int x) => rt (.inr x) | _ => fl) 1072 947 [(9997, .ref 1000000), (111, .ref 0), (112, .ref 207), (0, .int x3)] [] = (bn (gd (inR (x3 + (1 : Int32)) L)) fun _ =>
  bn (f_A_speakers (X ((x3 + (1 : Int32))).toNatClampNeg)) fun v1 =>
  bn (gd (inR (x3 + (1 : Int32)) L)) fun _ =>
  bn (f_R_speakers (X ((x3 + (1 : Int32))).toNatClampNeg)) fun v2 =>
  (if v1 = v2 then
    k_1533 x3
  else
    bn (gdZ (0 : Int32)) fun _ => rt (.inr (0 : Int32)))) := rfl
theorem s_L_law_947 {d : Nat} (L : Nat) (X : Nat → Int32) (hcs : AllS L X d (cs_L_law F_A_act F_A_alias F_A_bed F_A_beds F_A_birthdays F_A_book F_A_boot F_A_box F_A_end F_A_fault F_A_feed F_A_game F_A_goes F_A_hoop F_A_hours F_A_image F_A_keeps F_A_least F_A_letter F_A_loan F_A_look F_A_named F_A_names F_A_net F_A_notes F_A_of F_A_pair F_A_person F_A_persons F_A_says F_A_set F_A_settled F_A_sighted F_A_speakers F_A_state F_A_street F_A_swings F_A_text F_A_undo F_A_vote F_A_who F_R_act F_R_alias F_R_bed F_R_beds F_R_birthdays F_R_book F_R_boot F_R_box F_R_end F_R_fault F_R_feed F_R_game F_R_goes F_R_hoop F_R_hours F_R_image F_R_keeps F_R_least F_R_letter F_R_loan F_R_look F_R_named F_R_names F_R_net F_R_notes F_R_of F_R_pair F_R_person F_R_persons F_R_says F_R_set F_R_settled F_R_sighted F_R_speakers F_R_state F_R_street F_R_swings F_R_text F_R_undo F_R_vote F_R_who)) (x3 : Int32) {o : Option Value × PH} {Q : ((Int32) ⊕ (Int32)) → MI → Prop} (qb : ∀ y I, Q (.inl y) I → At L X (d + 1) 331 18 [(9997, .ref 1000000), (111, .ref 0), (112, .ref 207), (0, .int y)] [] I o) (qr : ∀ v I, Q (.inr v) I → o = (some (.int v), HH I)) (I : MI) (r : (Int32) ⊕ (Int32)) (I1 : MI) (h : K_L_law_947 L X x3 I = some (r, I1)) (hq : Q r I1) : At L X (d + 1) 331 947 [(9997, .ref 1000000), (111, .ref 0), (112, .ref 207), (0, .int x3)] [] I o := by
  refine wf_ok z_L_law hcs ?_ ?_ _ _ _ _ _ ⟨rfl, rfl, rfl, trivial, trivial⟩ trivial (unm_refl _ _) ((congrFun (e_s_L_law_947 (L := L) (X := X) F_A_act F_A_alias F_A_bed F_A_beds F_A_birthdays F_A_book F_A_boot F_A_box F_A_end F_A_fault F_A_feed F_A_game F_A_goes F_A_hoop F_A_hours F_A_image F_A_keeps F_A_least F_A_letter F_A_loan F_A_look F_A_named F_A_names F_A_net F_A_notes F_A_of F_A_pair F_A_person F_A_persons F_A_says F_A_set F_A_settled F_A_sighted F_A_speakers F_A_state F_A_street F_A_swings F_A_text F_A_undo F_A_vote F_A_who F_R_act F_R_alias F_R_bed F_R_beds F_R_birthdays F_R_book F_R_boot F_R_box F_R_end F_R_fault F_R_feed F_R_game F_R_goes F_R_hoop F_R_hours F_R_image F_R_keeps F_R_least F_R_letter F_R_loan F_R_look F_R_named F_R_names F_R_net F_R_notes F_R_of F_R_pair F_R_person F_R_persons F_R_says F_R_set F_R_settled F_R_sighted F_R_speakers F_R_state F_R_street F_R_swings F_R_text F_R_undo F_R_vote F_R_who (K_L_law_1533 L X) x3) I).trans h)
  · intro pc ls st I2 h1 h2 h3 h
    rcases mC_ok h with ⟨hb, h⟩ | ⟨_, h⟩
    · have e := Nat.eq_of_beq_eq_true hb
      subst e
      obtain ⟨hst, h⟩ := mN_ok h
      subst hst
      refine at_leaf (ls2 := [(9997, .ref 1000000), (111, .ref 0), (112, .ref 207), (0, .int x3)]) h3.1 ⟨Or.inr ⟨_, (h3.2 0 rfl).trans rfl⟩, Or.inr ⟨_, (h3.2 1 rfl).trans rfl⟩, Or.inr ⟨_, (h3.2 2 rfl).trans rfl⟩, Or.inr ⟨_, (h3.2 3 rfl).trans rfl⟩, trivial⟩ ?_
      exact s_L_law_1533 L X hcs x3 qb qr _ _ _ h hq
    cases h
  · intro v I2 _ h
    split at h
    · cases h; exact qr _ _ hq
    · cases h
def K_L_law_970 (L : Nat) (X : Nat → Int32) (x3 : Int32) : M ((Int32) ⊕ (Int32)) :=
  bn (gd (inR (x3 + (1 : Int32)) L)) fun _ =>
  bn (F_A_vote (X ((x3 + (1 : Int32))).toNatClampNeg)) fun v1 =>
  bn (gd (inR (x3 + (1 : Int32)) L)) fun _ =>
  bn (F_R_vote (X ((x3 + (1 : Int32))).toNatClampNeg)) fun v2 =>
  (if v1 = v2 then
    K_L_law_1533 L X x3
  else
    bn (gdZ (0 : Int32)) fun _ => rt (.inr (0 : Int32)))
set_option maxRecDepth 4000 in
theorem e_s_L_law_970 (f_A_act : Int32 → Int32 → Int32 → M Int32) (f_A_alias : Int32 → Int32 → Int32 → M Int32) (f_A_bed : Int32 → Int32 → M Int32) (f_A_beds : Int32 → M Int32) (f_A_birthdays : Int32 → Int32 → Int32 → M Int32) (f_A_book : Int32 → Int32 → M Int32) (f_A_boot : Int32 → M Int32) (f_A_box : Int32 → M Int32) (f_A_end : Int32 → M Int32) (f_A_fault : Int32 → M Int32) (f_A_feed : Int32 → Int32 → Int32 → Int32 → Int32 → M Int32) (f_A_game : Int32 → Int32 → Int32 → M Int32) (f_A_goes : Int32 → Int32 → M Int32) (f_A_hoop : Int32 → Int32 → Int32 → M Int32) (f_A_hours : Int32 → M Int32) (f_A_image : Int32 → M Int32) (f_A_keeps : Int32 → M Int32) (f_A_least : Int32 → M Int32) (f_A_letter : Int32 → Int32 → M Int32) (f_A_loan : Int32 → Int32 → Int32 → M Int32) (f_A_look : Int32 → M Int32) (f_A_named : Int32 → M Int32) (f_A_names : Int32 → M Int32) (f_A_net : Int32 → Int32 → M Int32) (f_A_notes : Int32 → M Int32) (f_A_of : Int32 → Int32 → M Int32) (f_A_pair : Int32 → Int32 → Int32 → M Int32) (f_A_person : Int32 → Int32 → M Int32) (f_A_persons : Int32 → Int32 → M Int32) (f_A_says : Int32 → Int32 → Int32 → M Int32) (f_A_set : Int32 → Int32 → Int32 → M Int32) (f_A_settled : Int32 → M Int32) (f_A_sighted : Int32 → Int32 → M Int32) (f_A_speakers : Int32 → M Int32) (f_A_state : Int32 → M Int32) (f_A_street : Int32 → Int32 → M Int32) (f_A_swings : Int32 → Int32 → M Int32) (f_A_text : Int32 → M Int32) (f_A_undo : M Int32) (f_A_vote : Int32 → M Int32) (f_A_who : Int32 → Int32 → M Int32) (f_R_act : Int32 → Int32 → Int32 → M Int32) (f_R_alias : Int32 → Int32 → Int32 → M Int32) (f_R_bed : Int32 → Int32 → M Int32) (f_R_beds : Int32 → M Int32) (f_R_birthdays : Int32 → Int32 → Int32 → M Int32) (f_R_book : Int32 → Int32 → M Int32) (f_R_boot : Int32 → M Int32) (f_R_box : Int32 → M Int32) (f_R_end : Int32 → M Int32) (f_R_fault : Int32 → M Int32) (f_R_feed : Int32 → Int32 → Int32 → Int32 → Int32 → M Int32) (f_R_game : Int32 → Int32 → Int32 → M Int32) (f_R_goes : Int32 → Int32 → M Int32) (f_R_hoop : Int32 → Int32 → Int32 → M Int32) (f_R_hours : Int32 → M Int32) (f_R_image : Int32 → M Int32) (f_R_keeps : Int32 → M Int32) (f_R_least : Int32 → M Int32) (f_R_letter : Int32 → Int32 → M Int32) (f_R_loan : Int32 → Int32 → Int32 → M Int32) (f_R_look : Int32 → M Int32) (f_R_named : Int32 → M Int32) (f_R_names : Int32 → M Int32) (f_R_net : Int32 → Int32 → M Int32) (f_R_notes : Int32 → M Int32) (f_R_of : Int32 → Int32 → M Int32) (f_R_pair : Int32 → Int32 → Int32 → M Int32) (f_R_person : Int32 → Int32 → M Int32) (f_R_persons : Int32 → Int32 → M Int32) (f_R_says : Int32 → Int32 → Int32 → M Int32) (f_R_set : Int32 → Int32 → Int32 → M Int32) (f_R_settled : Int32 → M Int32) (f_R_sighted : Int32 → Int32 → M Int32) (f_R_speakers : Int32 → M Int32) (f_R_state : Int32 → M Int32) (f_R_street : Int32 → Int32 → M Int32) (f_R_swings : Int32 → Int32 → M Int32) (f_R_text : Int32 → M Int32) (f_R_undo : M Int32) (f_R_vote : Int32 → M Int32) (f_R_who : Int32 → Int32 → M Int32) (k_1533 : Int32 → M ((Int32) ⊕ (Int32))) (x3 : Int32) : wf (β := (Int32) ⊕ (Int32)) L X q_L_law 2 (cs_L_law f_A_act f_A_alias f_A_bed f_A_beds f_A_birthdays f_A_book f_A_boot f_A_box f_A_end f_A_fault f_A_feed f_A_game f_A_goes f_A_hoop f_A_hours f_A_image f_A_keeps f_A_least f_A_letter f_A_loan f_A_look f_A_named f_A_names f_A_net f_A_notes f_A_of f_A_pair f_A_person f_A_persons f_A_says f_A_set f_A_settled f_A_sighted f_A_speakers f_A_state f_A_street f_A_swings f_A_text f_A_undo f_A_vote f_A_who f_R_act f_R_alias f_R_bed f_R_beds f_R_birthdays f_R_book f_R_boot f_R_box f_R_end f_R_fault f_R_feed f_R_game f_R_goes f_R_hoop f_R_hours f_R_image f_R_keeps f_R_least f_R_letter f_R_loan f_R_look f_R_named f_R_names f_R_net f_R_notes f_R_of f_R_pair f_R_person f_R_persons f_R_says f_R_set f_R_settled f_R_sighted f_R_speakers f_R_state f_R_street f_R_swings f_R_text f_R_undo f_R_vote f_R_who) [] [18, 212, 235, 268, 311, 354, 397, 420, 483, 506, 529, 552, 585, 618, 651, 684, 717, 740, 773, 806, 865, 888, 947, 970, 993, 1026, 1049, 1092, 1125, 1148, 1171, 1204, 1227, 1250, 1273, 1306, 1349, 1392, 1415, 1458, 1471, 1510, 1533] (fun pc ls st => mC (Nat.beq pc 1533) (mN st <| k_1533 x3) (fl)) (fun v => match v with | some (_, .int x) => rt (.inr x) | _ => fl) 1072 970 [(9997, .ref 1000000), (111, .ref 0), (112, .ref 207), (0, .int x3)] [] = (bn (gd (inR (x3 + (1 : Int32)) L)) fun _ =>
  bn (f_A_vote (X ((x3 + (1 : Int32))).toNatClampNeg)) fun v1 =>
  bn (gd (inR (x3 + (1 : Int32)) L)) fun _ =>
  bn (f_R_vote (X ((x3 + (1 : Int32))).toNatClampNeg)) fun v2 =>
  (if v1 = v2 then
    k_1533 x3
  else
    bn (gdZ (0 : Int32)) fun _ => rt (.inr (0 : Int32)))) := rfl
theorem s_L_law_970 {d : Nat} (L : Nat) (X : Nat → Int32) (hcs : AllS L X d (cs_L_law F_A_act F_A_alias F_A_bed F_A_beds F_A_birthdays F_A_book F_A_boot F_A_box F_A_end F_A_fault F_A_feed F_A_game F_A_goes F_A_hoop F_A_hours F_A_image F_A_keeps F_A_least F_A_letter F_A_loan F_A_look F_A_named F_A_names F_A_net F_A_notes F_A_of F_A_pair F_A_person F_A_persons F_A_says F_A_set F_A_settled F_A_sighted F_A_speakers F_A_state F_A_street F_A_swings F_A_text F_A_undo F_A_vote F_A_who F_R_act F_R_alias F_R_bed F_R_beds F_R_birthdays F_R_book F_R_boot F_R_box F_R_end F_R_fault F_R_feed F_R_game F_R_goes F_R_hoop F_R_hours F_R_image F_R_keeps F_R_least F_R_letter F_R_loan F_R_look F_R_named F_R_names F_R_net F_R_notes F_R_of F_R_pair F_R_person F_R_persons F_R_says F_R_set F_R_settled F_R_sighted F_R_speakers F_R_state F_R_street F_R_swings F_R_text F_R_undo F_R_vote F_R_who)) (x3 : Int32) {o : Option Value × PH} {Q : ((Int32) ⊕ (Int32)) → MI → Prop} (qb : ∀ y I, Q (.inl y) I → At L X (d + 1) 331 18 [(9997, .ref 1000000), (111, .ref 0), (112, .ref 207), (0, .int y)] [] I o) (qr : ∀ v I, Q (.inr v) I → o = (some (.int v), HH I)) (I : MI) (r : (Int32) ⊕ (Int32)) (I1 : MI) (h : K_L_law_970 L X x3 I = some (r, I1)) (hq : Q r I1) : At L X (d + 1) 331 970 [(9997, .ref 1000000), (111, .ref 0), (112, .ref 207), (0, .int x3)] [] I o := by
  refine wf_ok z_L_law hcs ?_ ?_ _ _ _ _ _ ⟨rfl, rfl, rfl, trivial, trivial⟩ trivial (unm_refl _ _) ((congrFun (e_s_L_law_970 (L := L) (X := X) F_A_act F_A_alias F_A_bed F_A_beds F_A_birthdays F_A_book F_A_boot F_A_box F_A_end F_A_fault F_A_feed F_A_game F_A_goes F_A_hoop F_A_hours F_A_image F_A_keeps F_A_least F_A_letter F_A_loan F_A_look F_A_named F_A_names F_A_net F_A_notes F_A_of F_A_pair F_A_person F_A_persons F_A_says F_A_set F_A_settled F_A_sighted F_A_speakers F_A_state F_A_street F_A_swings F_A_text F_A_undo F_A_vote F_A_who F_R_act F_R_alias F_R_bed F_R_beds F_R_birthdays F_R_book F_R_boot F_R_box F_R_end F_R_fault F_R_feed F_R_game F_R_goes F_R_hoop F_R_hours F_R_image F_R_keeps F_R_least F_R_letter F_R_loan F_R_look F_R_named F_R_names F_R_net F_R_notes F_R_of F_R_pair F_R_person F_R_persons F_R_says F_R_set F_R_settled F_R_sighted F_R_speakers F_R_state F_R_street F_R_swings F_R_text F_R_undo F_R_vote F_R_who (K_L_law_1533 L X) x3) I).trans h)
  · intro pc ls st I2 h1 h2 h3 h
    rcases mC_ok h with ⟨hb, h⟩ | ⟨_, h⟩
    · have e := Nat.eq_of_beq_eq_true hb
      subst e
      obtain ⟨hst, h⟩ := mN_ok h
      subst hst
      refine at_leaf (ls2 := [(9997, .ref 1000000), (111, .ref 0), (112, .ref 207), (0, .int x3)]) h3.1 ⟨Or.inr ⟨_, (h3.2 0 rfl).trans rfl⟩, Or.inr ⟨_, (h3.2 1 rfl).trans rfl⟩, Or.inr ⟨_, (h3.2 2 rfl).trans rfl⟩, Or.inr ⟨_, (h3.2 3 rfl).trans rfl⟩, trivial⟩ ?_
      exact s_L_law_1533 L X hcs x3 qb qr _ _ _ h hq
    cases h
  · intro v I2 _ h
    split at h
    · cases h; exact qr _ _ hq
    · cases h
def K_L_law_993 (L : Nat) (X : Nat → Int32) (x3 : Int32) : M ((Int32) ⊕ (Int32)) :=
  bn (gd (inR (x3 + (1 : Int32)) L)) fun _ =>
  bn (gd (inR (x3 + (2 : Int32)) L)) fun _ =>
  bn (F_A_swings (X ((x3 + (1 : Int32))).toNatClampNeg) (X ((x3 + (2 : Int32))).toNatClampNeg)) fun v1 =>
  bn (gd (inR (x3 + (1 : Int32)) L)) fun _ =>
  bn (gd (inR (x3 + (2 : Int32)) L)) fun _ =>
  bn (F_R_swings (X ((x3 + (1 : Int32))).toNatClampNeg) (X ((x3 + (2 : Int32))).toNatClampNeg)) fun v2 =>
  (if v1 = v2 then
    K_L_law_1533 L X x3
  else
    bn (gdZ (0 : Int32)) fun _ => rt (.inr (0 : Int32)))
set_option maxRecDepth 4000 in
theorem e_s_L_law_993 (f_A_act : Int32 → Int32 → Int32 → M Int32) (f_A_alias : Int32 → Int32 → Int32 → M Int32) (f_A_bed : Int32 → Int32 → M Int32) (f_A_beds : Int32 → M Int32) (f_A_birthdays : Int32 → Int32 → Int32 → M Int32) (f_A_book : Int32 → Int32 → M Int32) (f_A_boot : Int32 → M Int32) (f_A_box : Int32 → M Int32) (f_A_end : Int32 → M Int32) (f_A_fault : Int32 → M Int32) (f_A_feed : Int32 → Int32 → Int32 → Int32 → Int32 → M Int32) (f_A_game : Int32 → Int32 → Int32 → M Int32) (f_A_goes : Int32 → Int32 → M Int32) (f_A_hoop : Int32 → Int32 → Int32 → M Int32) (f_A_hours : Int32 → M Int32) (f_A_image : Int32 → M Int32) (f_A_keeps : Int32 → M Int32) (f_A_least : Int32 → M Int32) (f_A_letter : Int32 → Int32 → M Int32) (f_A_loan : Int32 → Int32 → Int32 → M Int32) (f_A_look : Int32 → M Int32) (f_A_named : Int32 → M Int32) (f_A_names : Int32 → M Int32) (f_A_net : Int32 → Int32 → M Int32) (f_A_notes : Int32 → M Int32) (f_A_of : Int32 → Int32 → M Int32) (f_A_pair : Int32 → Int32 → Int32 → M Int32) (f_A_person : Int32 → Int32 → M Int32) (f_A_persons : Int32 → Int32 → M Int32) (f_A_says : Int32 → Int32 → Int32 → M Int32) (f_A_set : Int32 → Int32 → Int32 → M Int32) (f_A_settled : Int32 → M Int32) (f_A_sighted : Int32 → Int32 → M Int32) (f_A_speakers : Int32 → M Int32) (f_A_state : Int32 → M Int32) (f_A_street : Int32 → Int32 → M Int32) (f_A_swings : Int32 → Int32 → M Int32) (f_A_text : Int32 → M Int32) (f_A_undo : M Int32) (f_A_vote : Int32 → M Int32) (f_A_who : Int32 → Int32 → M Int32) (f_R_act : Int32 → Int32 → Int32 → M Int32) (f_R_alias : Int32 → Int32 → Int32 → M Int32) (f_R_bed : Int32 → Int32 → M Int32) (f_R_beds : Int32 → M Int32) (f_R_birthdays : Int32 → Int32 → Int32 → M Int32) (f_R_book : Int32 → Int32 → M Int32) (f_R_boot : Int32 → M Int32) (f_R_box : Int32 → M Int32) (f_R_end : Int32 → M Int32) (f_R_fault : Int32 → M Int32) (f_R_feed : Int32 → Int32 → Int32 → Int32 → Int32 → M Int32) (f_R_game : Int32 → Int32 → Int32 → M Int32) (f_R_goes : Int32 → Int32 → M Int32) (f_R_hoop : Int32 → Int32 → Int32 → M Int32) (f_R_hours : Int32 → M Int32) (f_R_image : Int32 → M Int32) (f_R_keeps : Int32 → M Int32) (f_R_least : Int32 → M Int32) (f_R_letter : Int32 → Int32 → M Int32) (f_R_loan : Int32 → Int32 → Int32 → M Int32) (f_R_look : Int32 → M Int32) (f_R_named : Int32 → M Int32) (f_R_names : Int32 → M Int32) (f_R_net : Int32 → Int32 → M Int32) (f_R_notes : Int32 → M Int32) (f_R_of : Int32 → Int32 → M Int32) (f_R_pair : Int32 → Int32 → Int32 → M Int32) (f_R_person : Int32 → Int32 → M Int32) (f_R_persons : Int32 → Int32 → M Int32) (f_R_says : Int32 → Int32 → Int32 → M Int32) (f_R_set : Int32 → Int32 → Int32 → M Int32) (f_R_settled : Int32 → M Int32) (f_R_sighted : Int32 → Int32 → M Int32) (f_R_speakers : Int32 → M Int32) (f_R_state : Int32 → M Int32) (f_R_street : Int32 → Int32 → M Int32) (f_R_swings : Int32 → Int32 → M Int32) (f_R_text : Int32 → M Int32) (f_R_undo : M Int32) (f_R_vote : Int32 → M Int32) (f_R_who : Int32 → Int32 → M Int32) (k_1533 : Int32 → M ((Int32) ⊕ (Int32))) (x3 : Int32) : wf (β := (Int32) ⊕ (Int32)) L X q_L_law 2 (cs_L_law f_A_act f_A_alias f_A_bed f_A_beds f_A_birthdays f_A_book f_A_boot f_A_box f_A_end f_A_fault f_A_feed f_A_game f_A_goes f_A_hoop f_A_hours f_A_image f_A_keeps f_A_least f_A_letter f_A_loan f_A_look f_A_named f_A_names f_A_net f_A_notes f_A_of f_A_pair f_A_person f_A_persons f_A_says f_A_set f_A_settled f_A_sighted f_A_speakers f_A_state f_A_street f_A_swings f_A_text f_A_undo f_A_vote f_A_who f_R_act f_R_alias f_R_bed f_R_beds f_R_birthdays f_R_book f_R_boot f_R_box f_R_end f_R_fault f_R_feed f_R_game f_R_goes f_R_hoop f_R_hours f_R_image f_R_keeps f_R_least f_R_letter f_R_loan f_R_look f_R_named f_R_names f_R_net f_R_notes f_R_of f_R_pair f_R_person f_R_persons f_R_says f_R_set f_R_settled f_R_sighted f_R_speakers f_R_state f_R_street f_R_swings f_R_text f_R_undo f_R_vote f_R_who) [] [18, 212, 235, 268, 311, 354, 397, 420, 483, 506, 529, 552, 585, 618, 651, 684, 717, 740, 773, 806, 865, 888, 947, 970, 993, 1026, 1049, 1092, 1125, 1148, 1171, 1204, 1227, 1250, 1273, 1306, 1349, 1392, 1415, 1458, 1471, 1510, 1533] (fun pc ls st => mC (Nat.beq pc 1533) (mN st <| k_1533 x3) (fl)) (fun v => match v with | some (_, .int x) => rt (.inr x) | _ => fl) 1072 993 [(9997, .ref 1000000), (111, .ref 0), (112, .ref 207), (0, .int x3)] [] = (bn (gd (inR (x3 + (1 : Int32)) L)) fun _ =>
  bn (gd (inR (x3 + (2 : Int32)) L)) fun _ =>
  bn (f_A_swings (X ((x3 + (1 : Int32))).toNatClampNeg) (X ((x3 + (2 : Int32))).toNatClampNeg)) fun v1 =>
  bn (gd (inR (x3 + (1 : Int32)) L)) fun _ =>
  bn (gd (inR (x3 + (2 : Int32)) L)) fun _ =>
  bn (f_R_swings (X ((x3 + (1 : Int32))).toNatClampNeg) (X ((x3 + (2 : Int32))).toNatClampNeg)) fun v2 =>
  (if v1 = v2 then
    k_1533 x3
  else
    bn (gdZ (0 : Int32)) fun _ => rt (.inr (0 : Int32)))) := rfl
theorem s_L_law_993 {d : Nat} (L : Nat) (X : Nat → Int32) (hcs : AllS L X d (cs_L_law F_A_act F_A_alias F_A_bed F_A_beds F_A_birthdays F_A_book F_A_boot F_A_box F_A_end F_A_fault F_A_feed F_A_game F_A_goes F_A_hoop F_A_hours F_A_image F_A_keeps F_A_least F_A_letter F_A_loan F_A_look F_A_named F_A_names F_A_net F_A_notes F_A_of F_A_pair F_A_person F_A_persons F_A_says F_A_set F_A_settled F_A_sighted F_A_speakers F_A_state F_A_street F_A_swings F_A_text F_A_undo F_A_vote F_A_who F_R_act F_R_alias F_R_bed F_R_beds F_R_birthdays F_R_book F_R_boot F_R_box F_R_end F_R_fault F_R_feed F_R_game F_R_goes F_R_hoop F_R_hours F_R_image F_R_keeps F_R_least F_R_letter F_R_loan F_R_look F_R_named F_R_names F_R_net F_R_notes F_R_of F_R_pair F_R_person F_R_persons F_R_says F_R_set F_R_settled F_R_sighted F_R_speakers F_R_state F_R_street F_R_swings F_R_text F_R_undo F_R_vote F_R_who)) (x3 : Int32) {o : Option Value × PH} {Q : ((Int32) ⊕ (Int32)) → MI → Prop} (qb : ∀ y I, Q (.inl y) I → At L X (d + 1) 331 18 [(9997, .ref 1000000), (111, .ref 0), (112, .ref 207), (0, .int y)] [] I o) (qr : ∀ v I, Q (.inr v) I → o = (some (.int v), HH I)) (I : MI) (r : (Int32) ⊕ (Int32)) (I1 : MI) (h : K_L_law_993 L X x3 I = some (r, I1)) (hq : Q r I1) : At L X (d + 1) 331 993 [(9997, .ref 1000000), (111, .ref 0), (112, .ref 207), (0, .int x3)] [] I o := by
  refine wf_ok z_L_law hcs ?_ ?_ _ _ _ _ _ ⟨rfl, rfl, rfl, trivial, trivial⟩ trivial (unm_refl _ _) ((congrFun (e_s_L_law_993 (L := L) (X := X) F_A_act F_A_alias F_A_bed F_A_beds F_A_birthdays F_A_book F_A_boot F_A_box F_A_end F_A_fault F_A_feed F_A_game F_A_goes F_A_hoop F_A_hours F_A_image F_A_keeps F_A_least F_A_letter F_A_loan F_A_look F_A_named F_A_names F_A_net F_A_notes F_A_of F_A_pair F_A_person F_A_persons F_A_says F_A_set F_A_settled F_A_sighted F_A_speakers F_A_state F_A_street F_A_swings F_A_text F_A_undo F_A_vote F_A_who F_R_act F_R_alias F_R_bed F_R_beds F_R_birthdays F_R_book F_R_boot F_R_box F_R_end F_R_fault F_R_feed F_R_game F_R_goes F_R_hoop F_R_hours F_R_image F_R_keeps F_R_least F_R_letter F_R_loan F_R_look F_R_named F_R_names F_R_net F_R_notes F_R_of F_R_pair F_R_person F_R_persons F_R_says F_R_set F_R_settled F_R_sighted F_R_speakers F_R_state F_R_street F_R_swings F_R_text F_R_undo F_R_vote F_R_who (K_L_law_1533 L X) x3) I).trans h)
  · intro pc ls st I2 h1 h2 h3 h
    rcases mC_ok h with ⟨hb, h⟩ | ⟨_, h⟩
    · have e := Nat.eq_of_beq_eq_true hb
      subst e
      obtain ⟨hst, h⟩ := mN_ok h
      subst hst
      refine at_leaf (ls2 := [(9997, .ref 1000000), (111, .ref 0), (112, .ref 207), (0, .int x3)]) h3.1 ⟨Or.inr ⟨_, (h3.2 0 rfl).trans rfl⟩, Or.inr ⟨_, (h3.2 1 rfl).trans rfl⟩, Or.inr ⟨_, (h3.2 2 rfl).trans rfl⟩, Or.inr ⟨_, (h3.2 3 rfl).trans rfl⟩, trivial⟩ ?_
      exact s_L_law_1533 L X hcs x3 qb qr _ _ _ h hq
    cases h
  · intro v I2 _ h
    split at h
    · cases h; exact qr _ _ hq
    · cases h
def K_L_law_1026 (L : Nat) (X : Nat → Int32) (x3 : Int32) : M ((Int32) ⊕ (Int32)) :=
  bn (gd (inR (x3 + (1 : Int32)) L)) fun _ =>
  bn (F_A_least (X ((x3 + (1 : Int32))).toNatClampNeg)) fun v1 =>
  bn (gd (inR (x3 + (1 : Int32)) L)) fun _ =>
  bn (F_R_least (X ((x3 + (1 : Int32))).toNatClampNeg)) fun v2 =>
  (if v1 = v2 then
    K_L_law_1533 L X x3
  else
    bn (gdZ (0 : Int32)) fun _ => rt (.inr (0 : Int32)))
set_option maxRecDepth 4000 in
theorem e_s_L_law_1026 (f_A_act : Int32 → Int32 → Int32 → M Int32) (f_A_alias : Int32 → Int32 → Int32 → M Int32) (f_A_bed : Int32 → Int32 → M Int32) (f_A_beds : Int32 → M Int32) (f_A_birthdays : Int32 → Int32 → Int32 → M Int32) (f_A_book : Int32 → Int32 → M Int32) (f_A_boot : Int32 → M Int32) (f_A_box : Int32 → M Int32) (f_A_end : Int32 → M Int32) (f_A_fault : Int32 → M Int32) (f_A_feed : Int32 → Int32 → Int32 → Int32 → Int32 → M Int32) (f_A_game : Int32 → Int32 → Int32 → M Int32) (f_A_goes : Int32 → Int32 → M Int32) (f_A_hoop : Int32 → Int32 → Int32 → M Int32) (f_A_hours : Int32 → M Int32) (f_A_image : Int32 → M Int32) (f_A_keeps : Int32 → M Int32) (f_A_least : Int32 → M Int32) (f_A_letter : Int32 → Int32 → M Int32) (f_A_loan : Int32 → Int32 → Int32 → M Int32) (f_A_look : Int32 → M Int32) (f_A_named : Int32 → M Int32) (f_A_names : Int32 → M Int32) (f_A_net : Int32 → Int32 → M Int32) (f_A_notes : Int32 → M Int32) (f_A_of : Int32 → Int32 → M Int32) (f_A_pair : Int32 → Int32 → Int32 → M Int32) (f_A_person : Int32 → Int32 → M Int32) (f_A_persons : Int32 → Int32 → M Int32) (f_A_says : Int32 → Int32 → Int32 → M Int32) (f_A_set : Int32 → Int32 → Int32 → M Int32) (f_A_settled : Int32 → M Int32) (f_A_sighted : Int32 → Int32 → M Int32) (f_A_speakers : Int32 → M Int32) (f_A_state : Int32 → M Int32) (f_A_street : Int32 → Int32 → M Int32) (f_A_swings : Int32 → Int32 → M Int32) (f_A_text : Int32 → M Int32) (f_A_undo : M Int32) (f_A_vote : Int32 → M Int32) (f_A_who : Int32 → Int32 → M Int32) (f_R_act : Int32 → Int32 → Int32 → M Int32) (f_R_alias : Int32 → Int32 → Int32 → M Int32) (f_R_bed : Int32 → Int32 → M Int32) (f_R_beds : Int32 → M Int32) (f_R_birthdays : Int32 → Int32 → Int32 → M Int32) (f_R_book : Int32 → Int32 → M Int32) (f_R_boot : Int32 → M Int32) (f_R_box : Int32 → M Int32) (f_R_end : Int32 → M Int32) (f_R_fault : Int32 → M Int32) (f_R_feed : Int32 → Int32 → Int32 → Int32 → Int32 → M Int32) (f_R_game : Int32 → Int32 → Int32 → M Int32) (f_R_goes : Int32 → Int32 → M Int32) (f_R_hoop : Int32 → Int32 → Int32 → M Int32) (f_R_hours : Int32 → M Int32) (f_R_image : Int32 → M Int32) (f_R_keeps : Int32 → M Int32) (f_R_least : Int32 → M Int32) (f_R_letter : Int32 → Int32 → M Int32) (f_R_loan : Int32 → Int32 → Int32 → M Int32) (f_R_look : Int32 → M Int32) (f_R_named : Int32 → M Int32) (f_R_names : Int32 → M Int32) (f_R_net : Int32 → Int32 → M Int32) (f_R_notes : Int32 → M Int32) (f_R_of : Int32 → Int32 → M Int32) (f_R_pair : Int32 → Int32 → Int32 → M Int32) (f_R_person : Int32 → Int32 → M Int32) (f_R_persons : Int32 → Int32 → M Int32) (f_R_says : Int32 → Int32 → Int32 → M Int32) (f_R_set : Int32 → Int32 → Int32 → M Int32) (f_R_settled : Int32 → M Int32) (f_R_sighted : Int32 → Int32 → M Int32) (f_R_speakers : Int32 → M Int32) (f_R_state : Int32 → M Int32) (f_R_street : Int32 → Int32 → M Int32) (f_R_swings : Int32 → Int32 → M Int32) (f_R_text : Int32 → M Int32) (f_R_undo : M Int32) (f_R_vote : Int32 → M Int32) (f_R_who : Int32 → Int32 → M Int32) (k_1533 : Int32 → M ((Int32) ⊕ (Int32))) (x3 : Int32) : wf (β := (Int32) ⊕ (Int32)) L X q_L_law 2 (cs_L_law f_A_act f_A_alias f_A_bed f_A_beds f_A_birthdays f_A_book f_A_boot f_A_box f_A_end f_A_fault f_A_feed f_A_game f_A_goes f_A_hoop f_A_hours f_A_image f_A_keeps f_A_least f_A_letter f_A_loan f_A_look f_A_named f_A_names f_A_net f_A_notes f_A_of f_A_pair f_A_person f_A_persons f_A_says f_A_set f_A_settled f_A_sighted f_A_speakers f_A_state f_A_street f_A_swings f_A_text f_A_undo f_A_vote f_A_who f_R_act f_R_alias f_R_bed f_R_beds f_R_birthdays f_R_book f_R_boot f_R_box f_R_end f_R_fault f_R_feed f_R_game f_R_goes f_R_hoop f_R_hours f_R_image f_R_keeps f_R_least f_R_letter f_R_loan f_R_look f_R_named f_R_names f_R_net f_R_notes f_R_of f_R_pair f_R_person f_R_persons f_R_says f_R_set f_R_settled f_R_sighted f_R_speakers f_R_state f_R_street f_R_swings f_R_text f_R_undo f_R_vote f_R_who) [] [18, 212, 235, 268, 311, 354, 397, 420, 483, 506, 529, 552, 585, 618, 651, 684, 717, 740, 773, 806, 865, 888, 947, 970, 993, 1026, 1049, 1092, 1125, 1148, 1171, 1204, 1227, 1250, 1273, 1306, 1349, 1392, 1415, 1458, 1471, 1510, 1533] (fun pc ls st => mC (Nat.beq pc 1533) (mN st <| k_1533 x3) (fl)) (fun v => match v with | some (_, .int x) => rt (.inr x) | _ => fl) 1072 1026 [(9997, .ref 1000000), (111, .ref 0), (112, .ref 207), (0, .int x3)] [] = (bn (gd (inR (x3 + (1 : Int32)) L)) fun _ =>
  bn (f_A_least (X ((x3 + (1 : Int32))).toNatClampNeg)) fun v1 =>
  bn (gd (inR (x3 + (1 : Int32)) L)) fun _ =>
  bn (f_R_least (X ((x3 + (1 : Int32))).toNatClampNeg)) fun v2 =>
  (if v1 = v2 then
    k_1533 x3
  else
    bn (gdZ (0 : Int32)) fun _ => rt (.inr (0 : Int32)))) := rfl
theorem s_L_law_1026 {d : Nat} (L : Nat) (X : Nat → Int32) (hcs : AllS L X d (cs_L_law F_A_act F_A_alias F_A_bed F_A_beds F_A_birthdays F_A_book F_A_boot F_A_box F_A_end F_A_fault F_A_feed F_A_game F_A_goes F_A_hoop F_A_hours F_A_image F_A_keeps F_A_least F_A_letter F_A_loan F_A_look F_A_named F_A_names F_A_net F_A_notes F_A_of F_A_pair F_A_person F_A_persons F_A_says F_A_set F_A_settled F_A_sighted F_A_speakers F_A_state F_A_street F_A_swings F_A_text F_A_undo F_A_vote F_A_who F_R_act F_R_alias F_R_bed F_R_beds F_R_birthdays F_R_book F_R_boot F_R_box F_R_end F_R_fault F_R_feed F_R_game F_R_goes F_R_hoop F_R_hours F_R_image F_R_keeps F_R_least F_R_letter F_R_loan F_R_look F_R_named F_R_names F_R_net F_R_notes F_R_of F_R_pair F_R_person F_R_persons F_R_says F_R_set F_R_settled F_R_sighted F_R_speakers F_R_state F_R_street F_R_swings F_R_text F_R_undo F_R_vote F_R_who)) (x3 : Int32) {o : Option Value × PH} {Q : ((Int32) ⊕ (Int32)) → MI → Prop} (qb : ∀ y I, Q (.inl y) I → At L X (d + 1) 331 18 [(9997, .ref 1000000), (111, .ref 0), (112, .ref 207), (0, .int y)] [] I o) (qr : ∀ v I, Q (.inr v) I → o = (some (.int v), HH I)) (I : MI) (r : (Int32) ⊕ (Int32)) (I1 : MI) (h : K_L_law_1026 L X x3 I = some (r, I1)) (hq : Q r I1) : At L X (d + 1) 331 1026 [(9997, .ref 1000000), (111, .ref 0), (112, .ref 207), (0, .int x3)] [] I o := by
  refine wf_ok z_L_law hcs ?_ ?_ _ _ _ _ _ ⟨rfl, rfl, rfl, trivial, trivial⟩ trivial (unm_refl _ _) ((congrFun (e_s_L_law_1026 (L := L) (X := X) F_A_act F_A_alias F_A_bed F_A_beds F_A_birthdays F_A_book F_A_boot F_A_box F_A_end F_A_fault F_A_feed F_A_game F_A_goes F_A_hoop F_A_hours F_A_image F_A_keeps F_A_least F_A_letter F_A_loan F_A_look F_A_named F_A_names F_A_net F_A_notes F_A_of F_A_pair F_A_person F_A_persons F_A_says F_A_set F_A_settled F_A_sighted F_A_speakers F_A_state F_A_street F_A_swings F_A_text F_A_undo F_A_vote F_A_who F_R_act F_R_alias F_R_bed F_R_beds F_R_birthdays F_R_book F_R_boot F_R_box F_R_end F_R_fault F_R_feed F_R_game F_R_goes F_R_hoop F_R_hours F_R_image F_R_keeps F_R_least F_R_letter F_R_loan F_R_look F_R_named F_R_names F_R_net F_R_notes F_R_of F_R_pair F_R_person F_R_persons F_R_says F_R_set F_R_settled F_R_sighted F_R_speakers F_R_state F_R_street F_R_swings F_R_text F_R_undo F_R_vote F_R_who (K_L_law_1533 L X) x3) I).trans h)
  · intro pc ls st I2 h1 h2 h3 h
    rcases mC_ok h with ⟨hb, h⟩ | ⟨_, h⟩
    · have e := Nat.eq_of_beq_eq_true hb
      subst e
      obtain ⟨hst, h⟩ := mN_ok h
      subst hst
      refine at_leaf (ls2 := [(9997, .ref 1000000), (111, .ref 0), (112, .ref 207), (0, .int x3)]) h3.1 ⟨Or.inr ⟨_, (h3.2 0 rfl).trans rfl⟩, Or.inr ⟨_, (h3.2 1 rfl).trans rfl⟩, Or.inr ⟨_, (h3.2 2 rfl).trans rfl⟩, Or.inr ⟨_, (h3.2 3 rfl).trans rfl⟩, trivial⟩ ?_
      exact s_L_law_1533 L X hcs x3 qb qr _ _ _ h hq
    cases h
  · intro v I2 _ h
    split at h
    · cases h; exact qr _ _ hq
    · cases h
def K_L_law_1049 (L : Nat) (X : Nat → Int32) (x3 : Int32) : M ((Int32) ⊕ (Int32)) :=
  bn (gd (inR (x3 + (1 : Int32)) L)) fun _ =>
  bn (gd (inR (x3 + (2 : Int32)) L)) fun _ =>
  bn (gd (inR (x3 + (3 : Int32)) L)) fun _ =>
  bn (F_A_birthdays (X ((x3 + (1 : Int32))).toNatClampNeg) (X ((x3 + (2 : Int32))).toNatClampNeg) (X ((x3 + (3 : Int32))).toNatClampNeg)) fun v1 =>
  bn (gd (inR (x3 + (1 : Int32)) L)) fun _ =>
  bn (gd (inR (x3 + (2 : Int32)) L)) fun _ =>
  bn (gd (inR (x3 + (3 : Int32)) L)) fun _ =>
  bn (F_R_birthdays (X ((x3 + (1 : Int32))).toNatClampNeg) (X ((x3 + (2 : Int32))).toNatClampNeg) (X ((x3 + (3 : Int32))).toNatClampNeg)) fun v2 =>
  (if v1 = v2 then
    K_L_law_1533 L X x3
  else
    bn (gdZ (0 : Int32)) fun _ => rt (.inr (0 : Int32)))
set_option maxRecDepth 4000 in
theorem e_s_L_law_1049 (f_A_act : Int32 → Int32 → Int32 → M Int32) (f_A_alias : Int32 → Int32 → Int32 → M Int32) (f_A_bed : Int32 → Int32 → M Int32) (f_A_beds : Int32 → M Int32) (f_A_birthdays : Int32 → Int32 → Int32 → M Int32) (f_A_book : Int32 → Int32 → M Int32) (f_A_boot : Int32 → M Int32) (f_A_box : Int32 → M Int32) (f_A_end : Int32 → M Int32) (f_A_fault : Int32 → M Int32) (f_A_feed : Int32 → Int32 → Int32 → Int32 → Int32 → M Int32) (f_A_game : Int32 → Int32 → Int32 → M Int32) (f_A_goes : Int32 → Int32 → M Int32) (f_A_hoop : Int32 → Int32 → Int32 → M Int32) (f_A_hours : Int32 → M Int32) (f_A_image : Int32 → M Int32) (f_A_keeps : Int32 → M Int32) (f_A_least : Int32 → M Int32) (f_A_letter : Int32 → Int32 → M Int32) (f_A_loan : Int32 → Int32 → Int32 → M Int32) (f_A_look : Int32 → M Int32) (f_A_named : Int32 → M Int32) (f_A_names : Int32 → M Int32) (f_A_net : Int32 → Int32 → M Int32) (f_A_notes : Int32 → M Int32) (f_A_of : Int32 → Int32 → M Int32) (f_A_pair : Int32 → Int32 → Int32 → M Int32) (f_A_person : Int32 → Int32 → M Int32) (f_A_persons : Int32 → Int32 → M Int32) (f_A_says : Int32 → Int32 → Int32 → M Int32) (f_A_set : Int32 → Int32 → Int32 → M Int32) (f_A_settled : Int32 → M Int32) (f_A_sighted : Int32 → Int32 → M Int32) (f_A_speakers : Int32 → M Int32) (f_A_state : Int32 → M Int32) (f_A_street : Int32 → Int32 → M Int32) (f_A_swings : Int32 → Int32 → M Int32) (f_A_text : Int32 → M Int32) (f_A_undo : M Int32) (f_A_vote : Int32 → M Int32) (f_A_who : Int32 → Int32 → M Int32) (f_R_act : Int32 → Int32 → Int32 → M Int32) (f_R_alias : Int32 → Int32 → Int32 → M Int32) (f_R_bed : Int32 → Int32 → M Int32) (f_R_beds : Int32 → M Int32) (f_R_birthdays : Int32 → Int32 → Int32 → M Int32) (f_R_book : Int32 → Int32 → M Int32) (f_R_boot : Int32 → M Int32) (f_R_box : Int32 → M Int32) (f_R_end : Int32 → M Int32) (f_R_fault : Int32 → M Int32) (f_R_feed : Int32 → Int32 → Int32 → Int32 → Int32 → M Int32) (f_R_game : Int32 → Int32 → Int32 → M Int32) (f_R_goes : Int32 → Int32 → M Int32) (f_R_hoop : Int32 → Int32 → Int32 → M Int32) (f_R_hours : Int32 → M Int32) (f_R_image : Int32 → M Int32) (f_R_keeps : Int32 → M Int32) (f_R_least : Int32 → M Int32) (f_R_letter : Int32 → Int32 → M Int32) (f_R_loan : Int32 → Int32 → Int32 → M Int32) (f_R_look : Int32 → M Int32) (f_R_named : Int32 → M Int32) (f_R_names : Int32 → M Int32) (f_R_net : Int32 → Int32 → M Int32) (f_R_notes : Int32 → M Int32) (f_R_of : Int32 → Int32 → M Int32) (f_R_pair : Int32 → Int32 → Int32 → M Int32) (f_R_person : Int32 → Int32 → M Int32) (f_R_persons : Int32 → Int32 → M Int32) (f_R_says : Int32 → Int32 → Int32 → M Int32) (f_R_set : Int32 → Int32 → Int32 → M Int32) (f_R_settled : Int32 → M Int32) (f_R_sighted : Int32 → Int32 → M Int32) (f_R_speakers : Int32 → M Int32) (f_R_state : Int32 → M Int32) (f_R_street : Int32 → Int32 → M Int32) (f_R_swings : Int32 → Int32 → M Int32) (f_R_text : Int32 → M Int32) (f_R_undo : M Int32) (f_R_vote : Int32 → M Int32) (f_R_who : Int32 → Int32 → M Int32) (k_1533 : Int32 → M ((Int32) ⊕ (Int32))) (x3 : Int32) : wf (β := (Int32) ⊕ (Int32)) L X q_L_law 2 (cs_L_law f_A_act f_A_alias f_A_bed f_A_beds f_A_birthdays f_A_book f_A_boot f_A_box f_A_end f_A_fault f_A_feed f_A_game f_A_goes f_A_hoop f_A_hours f_A_image f_A_keeps f_A_least f_A_letter f_A_loan f_A_look f_A_named f_A_names f_A_net f_A_notes f_A_of f_A_pair f_A_person f_A_persons f_A_says f_A_set f_A_settled f_A_sighted f_A_speakers f_A_state f_A_street f_A_swings f_A_text f_A_undo f_A_vote f_A_who f_R_act f_R_alias f_R_bed f_R_beds f_R_birthdays f_R_book f_R_boot f_R_box f_R_end f_R_fault f_R_feed f_R_game f_R_goes f_R_hoop f_R_hours f_R_image f_R_keeps f_R_least f_R_letter f_R_loan f_R_look f_R_named f_R_names f_R_net f_R_notes f_R_of f_R_pair f_R_person f_R_persons f_R_says f_R_set f_R_settled f_R_sighted f_R_speakers f_R_state f_R_street f_R_swings f_R_text f_R_undo f_R_vote f_R_who) [] [18, 212, 235, 268, 311, 354, 397, 420, 483, 506, 529, 552, 585, 618, 651, 684, 717, 740, 773, 806, 865, 888, 947, 970, 993, 1026, 1049, 1092, 1125, 1148, 1171, 1204, 1227, 1250, 1273, 1306, 1349, 1392, 1415, 1458, 1471, 1510, 1533] (fun pc ls st => mC (Nat.beq pc 1533) (mN st <| k_1533 x3) (fl)) (fun v => match v with | some (_, .int x) => rt (.inr x) | _ => fl) 1072 1049 [(9997, .ref 1000000), (111, .ref 0), (112, .ref 207), (0, .int x3)] [] = (bn (gd (inR (x3 + (1 : Int32)) L)) fun _ =>
  bn (gd (inR (x3 + (2 : Int32)) L)) fun _ =>
  bn (gd (inR (x3 + (3 : Int32)) L)) fun _ =>
  bn (f_A_birthdays (X ((x3 + (1 : Int32))).toNatClampNeg) (X ((x3 + (2 : Int32))).toNatClampNeg) (X ((x3 + (3 : Int32))).toNatClampNeg)) fun v1 =>
  bn (gd (inR (x3 + (1 : Int32)) L)) fun _ =>
  bn (gd (inR (x3 + (2 : Int32)) L)) fun _ =>
  bn (gd (inR (x3 + (3 : Int32)) L)) fun _ =>
  bn (f_R_birthdays (X ((x3 + (1 : Int32))).toNatClampNeg) (X ((x3 + (2 : Int32))).toNatClampNeg) (X ((x3 + (3 : Int32))).toNatClampNeg)) fun v2 =>
  (if v1 = v2 then
    k_1533 x3
  else
    bn (gdZ (0 : Int32)) fun _ => rt (.inr (0 : Int32)))) := rfl
theorem s_L_law_1049 {d : Nat} (L : Nat) (X : Nat → Int32) (hcs : AllS L X d (cs_L_law F_A_act F_A_alias F_A_bed F_A_beds F_A_birthdays F_A_book F_A_boot F_A_box F_A_end F_A_fault F_A_feed F_A_game F_A_goes F_A_hoop F_A_hours F_A_image F_A_keeps F_A_least F_A_letter F_A_loan F_A_look F_A_named F_A_names F_A_net F_A_notes F_A_of F_A_pair F_A_person F_A_persons F_A_says F_A_set F_A_settled F_A_sighted F_A_speakers F_A_state F_A_street F_A_swings F_A_text F_A_undo F_A_vote F_A_who F_R_act F_R_alias F_R_bed F_R_beds F_R_birthdays F_R_book F_R_boot F_R_box F_R_end F_R_fault F_R_feed F_R_game F_R_goes F_R_hoop F_R_hours F_R_image F_R_keeps F_R_least F_R_letter F_R_loan F_R_look F_R_named F_R_names F_R_net F_R_notes F_R_of F_R_pair F_R_person F_R_persons F_R_says F_R_set F_R_settled F_R_sighted F_R_speakers F_R_state F_R_street F_R_swings F_R_text F_R_undo F_R_vote F_R_who)) (x3 : Int32) {o : Option Value × PH} {Q : ((Int32) ⊕ (Int32)) → MI → Prop} (qb : ∀ y I, Q (.inl y) I → At L X (d + 1) 331 18 [(9997, .ref 1000000), (111, .ref 0), (112, .ref 207), (0, .int y)] [] I o) (qr : ∀ v I, Q (.inr v) I → o = (some (.int v), HH I)) (I : MI) (r : (Int32) ⊕ (Int32)) (I1 : MI) (h : K_L_law_1049 L X x3 I = some (r, I1)) (hq : Q r I1) : At L X (d + 1) 331 1049 [(9997, .ref 1000000), (111, .ref 0), (112, .ref 207), (0, .int x3)] [] I o := by
  refine wf_ok z_L_law hcs ?_ ?_ _ _ _ _ _ ⟨rfl, rfl, rfl, trivial, trivial⟩ trivial (unm_refl _ _) ((congrFun (e_s_L_law_1049 (L := L) (X := X) F_A_act F_A_alias F_A_bed F_A_beds F_A_birthdays F_A_book F_A_boot F_A_box F_A_end F_A_fault F_A_feed F_A_game F_A_goes F_A_hoop F_A_hours F_A_image F_A_keeps F_A_least F_A_letter F_A_loan F_A_look F_A_named F_A_names F_A_net F_A_notes F_A_of F_A_pair F_A_person F_A_persons F_A_says F_A_set F_A_settled F_A_sighted F_A_speakers F_A_state F_A_street F_A_swings F_A_text F_A_undo F_A_vote F_A_who F_R_act F_R_alias F_R_bed F_R_beds F_R_birthdays F_R_book F_R_boot F_R_box F_R_end F_R_fault F_R_feed F_R_game F_R_goes F_R_hoop F_R_hours F_R_image F_R_keeps F_R_least F_R_letter F_R_loan F_R_look F_R_named F_R_names F_R_net F_R_notes F_R_of F_R_pair F_R_person F_R_persons F_R_says F_R_set F_R_settled F_R_sighted F_R_speakers F_R_state F_R_street F_R_swings F_R_text F_R_undo F_R_vote F_R_who (K_L_law_1533 L X) x3) I).trans h)
  · intro pc ls st I2 h1 h2 h3 h
    rcases mC_ok h with ⟨hb, h⟩ | ⟨_, h⟩
    · have e := Nat.eq_of_beq_eq_true hb
      subst e
      obtain ⟨hst, h⟩ := mN_ok h
      subst hst
      refine at_leaf (ls2 := [(9997, .ref 1000000), (111, .ref 0), (112, .ref 207), (0, .int x3)]) h3.1 ⟨Or.inr ⟨_, (h3.2 0 rfl).trans rfl⟩, Or.inr ⟨_, (h3.2 1 rfl).trans rfl⟩, Or.inr ⟨_, (h3.2 2 rfl).trans rfl⟩, Or.inr ⟨_, (h3.2 3 rfl).trans rfl⟩, trivial⟩ ?_
      exact s_L_law_1533 L X hcs x3 qb qr _ _ _ h hq
    cases h
  · intro v I2 _ h
    split at h
    · cases h; exact qr _ _ hq
    · cases h
def K_L_law_1092 (L : Nat) (X : Nat → Int32) (x3 : Int32) : M ((Int32) ⊕ (Int32)) :=
  bn (gd (inR (x3 + (1 : Int32)) L)) fun _ =>
  bn (gd (inR (x3 + (2 : Int32)) L)) fun _ =>
  bn (F_A_letter (X ((x3 + (1 : Int32))).toNatClampNeg) (X ((x3 + (2 : Int32))).toNatClampNeg)) fun v1 =>
  bn (gd (inR (x3 + (1 : Int32)) L)) fun _ =>
  bn (gd (inR (x3 + (2 : Int32)) L)) fun _ =>
  bn (F_R_letter (X ((x3 + (1 : Int32))).toNatClampNeg) (X ((x3 + (2 : Int32))).toNatClampNeg)) fun v2 =>
  (if v1 = v2 then
    K_L_law_1533 L X x3
  else
    bn (gdZ (0 : Int32)) fun _ => rt (.inr (0 : Int32)))
set_option maxRecDepth 4000 in
theorem e_s_L_law_1092 (f_A_act : Int32 → Int32 → Int32 → M Int32) (f_A_alias : Int32 → Int32 → Int32 → M Int32) (f_A_bed : Int32 → Int32 → M Int32) (f_A_beds : Int32 → M Int32) (f_A_birthdays : Int32 → Int32 → Int32 → M Int32) (f_A_book : Int32 → Int32 → M Int32) (f_A_boot : Int32 → M Int32) (f_A_box : Int32 → M Int32) (f_A_end : Int32 → M Int32) (f_A_fault : Int32 → M Int32) (f_A_feed : Int32 → Int32 → Int32 → Int32 → Int32 → M Int32) (f_A_game : Int32 → Int32 → Int32 → M Int32) (f_A_goes : Int32 → Int32 → M Int32) (f_A_hoop : Int32 → Int32 → Int32 → M Int32) (f_A_hours : Int32 → M Int32) (f_A_image : Int32 → M Int32) (f_A_keeps : Int32 → M Int32) (f_A_least : Int32 → M Int32) (f_A_letter : Int32 → Int32 → M Int32) (f_A_loan : Int32 → Int32 → Int32 → M Int32) (f_A_look : Int32 → M Int32) (f_A_named : Int32 → M Int32) (f_A_names : Int32 → M Int32) (f_A_net : Int32 → Int32 → M Int32) (f_A_notes : Int32 → M Int32) (f_A_of : Int32 → Int32 → M Int32) (f_A_pair : Int32 → Int32 → Int32 → M Int32) (f_A_person : Int32 → Int32 → M Int32) (f_A_persons : Int32 → Int32 → M Int32) (f_A_says : Int32 → Int32 → Int32 → M Int32) (f_A_set : Int32 → Int32 → Int32 → M Int32) (f_A_settled : Int32 → M Int32) (f_A_sighted : Int32 → Int32 → M Int32) (f_A_speakers : Int32 → M Int32) (f_A_state : Int32 → M Int32) (f_A_street : Int32 → Int32 → M Int32) (f_A_swings : Int32 → Int32 → M Int32) (f_A_text : Int32 → M Int32) (f_A_undo : M Int32) (f_A_vote : Int32 → M Int32) (f_A_who : Int32 → Int32 → M Int32) (f_R_act : Int32 → Int32 → Int32 → M Int32) (f_R_alias : Int32 → Int32 → Int32 → M Int32) (f_R_bed : Int32 → Int32 → M Int32) (f_R_beds : Int32 → M Int32) (f_R_birthdays : Int32 → Int32 → Int32 → M Int32) (f_R_book : Int32 → Int32 → M Int32) (f_R_boot : Int32 → M Int32) (f_R_box : Int32 → M Int32) (f_R_end : Int32 → M Int32) (f_R_fault : Int32 → M Int32) (f_R_feed : Int32 → Int32 → Int32 → Int32 → Int32 → M Int32) (f_R_game : Int32 → Int32 → Int32 → M Int32) (f_R_goes : Int32 → Int32 → M Int32) (f_R_hoop : Int32 → Int32 → Int32 → M Int32) (f_R_hours : Int32 → M Int32) (f_R_image : Int32 → M Int32) (f_R_keeps : Int32 → M Int32) (f_R_least : Int32 → M Int32) (f_R_letter : Int32 → Int32 → M Int32) (f_R_loan : Int32 → Int32 → Int32 → M Int32) (f_R_look : Int32 → M Int32) (f_R_named : Int32 → M Int32) (f_R_names : Int32 → M Int32) (f_R_net : Int32 → Int32 → M Int32) (f_R_notes : Int32 → M Int32) (f_R_of : Int32 → Int32 → M Int32) (f_R_pair : Int32 → Int32 → Int32 → M Int32) (f_R_person : Int32 → Int32 → M Int32) (f_R_persons : Int32 → Int32 → M Int32) (f_R_says : Int32 → Int32 → Int32 → M Int32) (f_R_set : Int32 → Int32 → Int32 → M Int32) (f_R_settled : Int32 → M Int32) (f_R_sighted : Int32 → Int32 → M Int32) (f_R_speakers : Int32 → M Int32) (f_R_state : Int32 → M Int32) (f_R_street : Int32 → Int32 → M Int32) (f_R_swings : Int32 → Int32 → M Int32) (f_R_text : Int32 → M Int32) (f_R_undo : M Int32) (f_R_vote : Int32 → M Int32) (f_R_who : Int32 → Int32 → M Int32) (k_1533 : Int32 → M ((Int32) ⊕ (Int32))) (x3 : Int32) : wf (β := (Int32) ⊕ (Int32)) L X q_L_law 2 (cs_L_law f_A_act f_A_alias f_A_bed f_A_beds f_A_birthdays f_A_book f_A_boot f_A_box f_A_end f_A_fault f_A_feed f_A_game f_A_goes f_A_hoop f_A_hours f_A_image f_A_keeps f_A_least f_A_letter f_A_loan f_A_look f_A_named f_A_names f_A_net f_A_notes f_A_of f_A_pair f_A_person f_A_persons f_A_says f_A_set f_A_settled f_A_sighted f_A_speakers f_A_state f_A_street f_A_swings f_A_text f_A_undo f_A_vote f_A_who f_R_act f_R_alias f_R_bed f_R_beds f_R_birthdays f_R_book f_R_boot f_R_box f_R_end f_R_fault f_R_feed f_R_game f_R_goes f_R_hoop f_R_hours f_R_image f_R_keeps f_R_least f_R_letter f_R_loan f_R_look f_R_named f_R_names f_R_net f_R_notes f_R_of f_R_pair f_R_person f_R_persons f_R_says f_R_set f_R_settled f_R_sighted f_R_speakers f_R_state f_R_street f_R_swings f_R_text f_R_undo f_R_vote f_R_who) [] [18, 212, 235, 268, 311, 354, 397, 420, 483, 506, 529, 552, 585, 618, 651, 684, 717, 740, 773, 806, 865, 888, 947, 970, 993, 1026, 1049, 1092, 1125, 1148, 1171, 1204, 1227, 1250, 1273, 1306, 1349, 1392, 1415, 1458, 1471, 1510, 1533] (fun pc ls st => mC (Nat.beq pc 1533) (mN st <| k_1533 x3) (fl)) (fun v => match v with | some (_, .int x) => rt (.inr x) | _ => fl) 1072 1092 [(9997, .ref 1000000), (111, .ref 0), (112, .ref 207), (0, .int x3)] [] = (bn (gd (inR (x3 + (1 : Int32)) L)) fun _ =>
  bn (gd (inR (x3 + (2 : Int32)) L)) fun _ =>
  bn (f_A_letter (X ((x3 + (1 : Int32))).toNatClampNeg) (X ((x3 + (2 : Int32))).toNatClampNeg)) fun v1 =>
  bn (gd (inR (x3 + (1 : Int32)) L)) fun _ =>
  bn (gd (inR (x3 + (2 : Int32)) L)) fun _ =>
  bn (f_R_letter (X ((x3 + (1 : Int32))).toNatClampNeg) (X ((x3 + (2 : Int32))).toNatClampNeg)) fun v2 =>
  (if v1 = v2 then
    k_1533 x3
  else
    bn (gdZ (0 : Int32)) fun _ => rt (.inr (0 : Int32)))) := rfl
theorem s_L_law_1092 {d : Nat} (L : Nat) (X : Nat → Int32) (hcs : AllS L X d (cs_L_law F_A_act F_A_alias F_A_bed F_A_beds F_A_birthdays F_A_book F_A_boot F_A_box F_A_end F_A_fault F_A_feed F_A_game F_A_goes F_A_hoop F_A_hours F_A_image F_A_keeps F_A_least F_A_letter F_A_loan F_A_look F_A_named F_A_names F_A_net F_A_notes F_A_of F_A_pair F_A_person F_A_persons F_A_says F_A_set F_A_settled F_A_sighted F_A_speakers F_A_state F_A_street F_A_swings F_A_text F_A_undo F_A_vote F_A_who F_R_act F_R_alias F_R_bed F_R_beds F_R_birthdays F_R_book F_R_boot F_R_box F_R_end F_R_fault F_R_feed F_R_game F_R_goes F_R_hoop F_R_hours F_R_image F_R_keeps F_R_least F_R_letter F_R_loan F_R_look F_R_named F_R_names F_R_net F_R_notes F_R_of F_R_pair F_R_person F_R_persons F_R_says F_R_set F_R_settled F_R_sighted F_R_speakers F_R_state F_R_street F_R_swings F_R_text F_R_undo F_R_vote F_R_who)) (x3 : Int32) {o : Option Value × PH} {Q : ((Int32) ⊕ (Int32)) → MI → Prop} (qb : ∀ y I, Q (.inl y) I → At L X (d + 1) 331 18 [(9997, .ref 1000000), (111, .ref 0), (112, .ref 207), (0, .int y)] [] I o) (qr : ∀ v I, Q (.inr v) I → o = (some (.int v), HH I)) (I : MI) (r : (Int32) ⊕ (Int32)) (I1 : MI) (h : K_L_law_1092 L X x3 I = some (r, I1)) (hq : Q r I1) : At L X (d + 1) 331 1092 [(9997, .ref 1000000), (111, .ref 0), (112, .ref 207), (0, .int x3)] [] I o := by
  refine wf_ok z_L_law hcs ?_ ?_ _ _ _ _ _ ⟨rfl, rfl, rfl, trivial, trivial⟩ trivial (unm_refl _ _) ((congrFun (e_s_L_law_1092 (L := L) (X := X) F_A_act F_A_alias F_A_bed F_A_beds F_A_birthdays F_A_book F_A_boot F_A_box F_A_end F_A_fault F_A_feed F_A_game F_A_goes F_A_hoop F_A_hours F_A_image F_A_keeps F_A_least F_A_letter F_A_loan F_A_look F_A_named F_A_names F_A_net F_A_notes F_A_of F_A_pair F_A_person F_A_persons F_A_says F_A_set F_A_settled F_A_sighted F_A_speakers F_A_state F_A_street F_A_swings F_A_text F_A_undo F_A_vote F_A_who F_R_act F_R_alias F_R_bed F_R_beds F_R_birthdays F_R_book F_R_boot F_R_box F_R_end F_R_fault F_R_feed F_R_game F_R_goes F_R_hoop F_R_hours F_R_image F_R_keeps F_R_least F_R_letter F_R_loan F_R_look F_R_named F_R_names F_R_net F_R_notes F_R_of F_R_pair F_R_person F_R_persons F_R_says F_R_set F_R_settled F_R_sighted F_R_speakers F_R_state F_R_street F_R_swings F_R_text F_R_undo F_R_vote F_R_who (K_L_law_1533 L X) x3) I).trans h)
  · intro pc ls st I2 h1 h2 h3 h
    rcases mC_ok h with ⟨hb, h⟩ | ⟨_, h⟩
    · have e := Nat.eq_of_beq_eq_true hb
      subst e
      obtain ⟨hst, h⟩ := mN_ok h
      subst hst
      refine at_leaf (ls2 := [(9997, .ref 1000000), (111, .ref 0), (112, .ref 207), (0, .int x3)]) h3.1 ⟨Or.inr ⟨_, (h3.2 0 rfl).trans rfl⟩, Or.inr ⟨_, (h3.2 1 rfl).trans rfl⟩, Or.inr ⟨_, (h3.2 2 rfl).trans rfl⟩, Or.inr ⟨_, (h3.2 3 rfl).trans rfl⟩, trivial⟩ ?_
      exact s_L_law_1533 L X hcs x3 qb qr _ _ _ h hq
    cases h
  · intro v I2 _ h
    split at h
    · cases h; exact qr _ _ hq
    · cases h
def K_L_law_1125 (L : Nat) (X : Nat → Int32) (x3 : Int32) : M ((Int32) ⊕ (Int32)) :=
  bn (gd (inR (x3 + (1 : Int32)) L)) fun _ =>
  bn (F_A_notes (X ((x3 + (1 : Int32))).toNatClampNeg)) fun v1 =>
  bn (gd (inR (x3 + (1 : Int32)) L)) fun _ =>
  bn (F_R_notes (X ((x3 + (1 : Int32))).toNatClampNeg)) fun v2 =>
  (if v1 = v2 then
    K_L_law_1533 L X x3
  else
    bn (gdZ (0 : Int32)) fun _ => rt (.inr (0 : Int32)))
set_option maxRecDepth 4000 in
theorem e_s_L_law_1125 (f_A_act : Int32 → Int32 → Int32 → M Int32) (f_A_alias : Int32 → Int32 → Int32 → M Int32) (f_A_bed : Int32 → Int32 → M Int32) (f_A_beds : Int32 → M Int32) (f_A_birthdays : Int32 → Int32 → Int32 → M Int32) (f_A_book : Int32 → Int32 → M Int32) (f_A_boot : Int32 → M Int32) (f_A_box : Int32 → M Int32) (f_A_end : Int32 → M Int32) (f_A_fault : Int32 → M Int32) (f_A_feed : Int32 → Int32 → Int32 → Int32 → Int32 → M Int32) (f_A_game : Int32 → Int32 → Int32 → M Int32) (f_A_goes : Int32 → Int32 → M Int32) (f_A_hoop : Int32 → Int32 → Int32 → M Int32) (f_A_hours : Int32 → M Int32) (f_A_image : Int32 → M Int32) (f_A_keeps : Int32 → M Int32) (f_A_least : Int32 → M Int32) (f_A_letter : Int32 → Int32 → M Int32) (f_A_loan : Int32 → Int32 → Int32 → M Int32) (f_A_look : Int32 → M Int32) (f_A_named : Int32 → M Int32) (f_A_names : Int32 → M Int32) (f_A_net : Int32 → Int32 → M Int32) (f_A_notes : Int32 → M Int32) (f_A_of : Int32 → Int32 → M Int32) (f_A_pair : Int32 → Int32 → Int32 → M Int32) (f_A_person : Int32 → Int32 → M Int32) (f_A_persons : Int32 → Int32 → M Int32) (f_A_says : Int32 → Int32 → Int32 → M Int32) (f_A_set : Int32 → Int32 → Int32 → M Int32) (f_A_settled : Int32 → M Int32) (f_A_sighted : Int32 → Int32 → M Int32) (f_A_speakers : Int32 → M Int32) (f_A_state : Int32 → M Int32) (f_A_street : Int32 → Int32 → M Int32) (f_A_swings : Int32 → Int32 → M Int32) (f_A_text : Int32 → M Int32) (f_A_undo : M Int32) (f_A_vote : Int32 → M Int32) (f_A_who : Int32 → Int32 → M Int32) (f_R_act : Int32 → Int32 → Int32 → M Int32) (f_R_alias : Int32 → Int32 → Int32 → M Int32) (f_R_bed : Int32 → Int32 → M Int32) (f_R_beds : Int32 → M Int32) (f_R_birthdays : Int32 → Int32 → Int32 → M Int32) (f_R_book : Int32 → Int32 → M Int32) (f_R_boot : Int32 → M Int32) (f_R_box : Int32 → M Int32) (f_R_end : Int32 → M Int32) (f_R_fault : Int32 → M Int32) (f_R_feed : Int32 → Int32 → Int32 → Int32 → Int32 → M Int32) (f_R_game : Int32 → Int32 → Int32 → M Int32) (f_R_goes : Int32 → Int32 → M Int32) (f_R_hoop : Int32 → Int32 → Int32 → M Int32) (f_R_hours : Int32 → M Int32) (f_R_image : Int32 → M Int32) (f_R_keeps : Int32 → M Int32) (f_R_least : Int32 → M Int32) (f_R_letter : Int32 → Int32 → M Int32) (f_R_loan : Int32 → Int32 → Int32 → M Int32) (f_R_look : Int32 → M Int32) (f_R_named : Int32 → M Int32) (f_R_names : Int32 → M Int32) (f_R_net : Int32 → Int32 → M Int32) (f_R_notes : Int32 → M Int32) (f_R_of : Int32 → Int32 → M Int32) (f_R_pair : Int32 → Int32 → Int32 → M Int32) (f_R_person : Int32 → Int32 → M Int32) (f_R_persons : Int32 → Int32 → M Int32) (f_R_says : Int32 → Int32 → Int32 → M Int32) (f_R_set : Int32 → Int32 → Int32 → M Int32) (f_R_settled : Int32 → M Int32) (f_R_sighted : Int32 → Int32 → M Int32) (f_R_speakers : Int32 → M Int32) (f_R_state : Int32 → M Int32) (f_R_street : Int32 → Int32 → M Int32) (f_R_swings : Int32 → Int32 → M Int32) (f_R_text : Int32 → M Int32) (f_R_undo : M Int32) (f_R_vote : Int32 → M Int32) (f_R_who : Int32 → Int32 → M Int32) (k_1533 : Int32 → M ((Int32) ⊕ (Int32))) (x3 : Int32) : wf (β := (Int32) ⊕ (Int32)) L X q_L_law 2 (cs_L_law f_A_act f_A_alias f_A_bed f_A_beds f_A_birthdays f_A_book f_A_boot f_A_box f_A_end f_A_fault f_A_feed f_A_game f_A_goes f_A_hoop f_A_hours f_A_image f_A_keeps f_A_least f_A_letter f_A_loan f_A_look f_A_named f_A_names f_A_net f_A_notes f_A_of f_A_pair f_A_person f_A_persons f_A_says f_A_set f_A_settled f_A_sighted f_A_speakers f_A_state f_A_street f_A_swings f_A_text f_A_undo f_A_vote f_A_who f_R_act f_R_alias f_R_bed f_R_beds f_R_birthdays f_R_book f_R_boot f_R_box f_R_end f_R_fault f_R_feed f_R_game f_R_goes f_R_hoop f_R_hours f_R_image f_R_keeps f_R_least f_R_letter f_R_loan f_R_look f_R_named f_R_names f_R_net f_R_notes f_R_of f_R_pair f_R_person f_R_persons f_R_says f_R_set f_R_settled f_R_sighted f_R_speakers f_R_state f_R_street f_R_swings f_R_text f_R_undo f_R_vote f_R_who) [] [18, 212, 235, 268, 311, 354, 397, 420, 483, 506, 529, 552, 585, 618, 651, 684, 717, 740, 773, 806, 865, 888, 947, 970, 993, 1026, 1049, 1092, 1125, 1148, 1171, 1204, 1227, 1250, 1273, 1306, 1349, 1392, 1415, 1458, 1471, 1510, 1533] (fun pc ls st => mC (Nat.beq pc 1533) (mN st <| k_1533 x3) (fl)) (fun v => match v with | some (_, .int x) => rt (.inr x) | _ => fl) 1072 1125 [(9997, .ref 1000000), (111, .ref 0), (112, .ref 207), (0, .int x3)] [] = (bn (gd (inR (x3 + (1 : Int32)) L)) fun _ =>
  bn (f_A_notes (X ((x3 + (1 : Int32))).toNatClampNeg)) fun v1 =>
  bn (gd (inR (x3 + (1 : Int32)) L)) fun _ =>
  bn (f_R_notes (X ((x3 + (1 : Int32))).toNatClampNeg)) fun v2 =>
  (if v1 = v2 then
    k_1533 x3
  else
    bn (gdZ (0 : Int32)) fun _ => rt (.inr (0 : Int32)))) := rfl
theorem s_L_law_1125 {d : Nat} (L : Nat) (X : Nat → Int32) (hcs : AllS L X d (cs_L_law F_A_act F_A_alias F_A_bed F_A_beds F_A_birthdays F_A_book F_A_boot F_A_box F_A_end F_A_fault F_A_feed F_A_game F_A_goes F_A_hoop F_A_hours F_A_image F_A_keeps F_A_least F_A_letter F_A_loan F_A_look F_A_named F_A_names F_A_net F_A_notes F_A_of F_A_pair F_A_person F_A_persons F_A_says F_A_set F_A_settled F_A_sighted F_A_speakers F_A_state F_A_street F_A_swings F_A_text F_A_undo F_A_vote F_A_who F_R_act F_R_alias F_R_bed F_R_beds F_R_birthdays F_R_book F_R_boot F_R_box F_R_end F_R_fault F_R_feed F_R_game F_R_goes F_R_hoop F_R_hours F_R_image F_R_keeps F_R_least F_R_letter F_R_loan F_R_look F_R_named F_R_names F_R_net F_R_notes F_R_of F_R_pair F_R_person F_R_persons F_R_says F_R_set F_R_settled F_R_sighted F_R_speakers F_R_state F_R_street F_R_swings F_R_text F_R_undo F_R_vote F_R_who)) (x3 : Int32) {o : Option Value × PH} {Q : ((Int32) ⊕ (Int32)) → MI → Prop} (qb : ∀ y I, Q (.inl y) I → At L X (d + 1) 331 18 [(9997, .ref 1000000), (111, .ref 0), (112, .ref 207), (0, .int y)] [] I o) (qr : ∀ v I, Q (.inr v) I → o = (some (.int v), HH I)) (I : MI) (r : (Int32) ⊕ (Int32)) (I1 : MI) (h : K_L_law_1125 L X x3 I = some (r, I1)) (hq : Q r I1) : At L X (d + 1) 331 1125 [(9997, .ref 1000000), (111, .ref 0), (112, .ref 207), (0, .int x3)] [] I o := by
  refine wf_ok z_L_law hcs ?_ ?_ _ _ _ _ _ ⟨rfl, rfl, rfl, trivial, trivial⟩ trivial (unm_refl _ _) ((congrFun (e_s_L_law_1125 (L := L) (X := X) F_A_act F_A_alias F_A_bed F_A_beds F_A_birthdays F_A_book F_A_boot F_A_box F_A_end F_A_fault F_A_feed F_A_game F_A_goes F_A_hoop F_A_hours F_A_image F_A_keeps F_A_least F_A_letter F_A_loan F_A_look F_A_named F_A_names F_A_net F_A_notes F_A_of F_A_pair F_A_person F_A_persons F_A_says F_A_set F_A_settled F_A_sighted F_A_speakers F_A_state F_A_street F_A_swings F_A_text F_A_undo F_A_vote F_A_who F_R_act F_R_alias F_R_bed F_R_beds F_R_birthdays F_R_book F_R_boot F_R_box F_R_end F_R_fault F_R_feed F_R_game F_R_goes F_R_hoop F_R_hours F_R_image F_R_keeps F_R_least F_R_letter F_R_loan F_R_look F_R_named F_R_names F_R_net F_R_notes F_R_of F_R_pair F_R_person F_R_persons F_R_says F_R_set F_R_settled F_R_sighted F_R_speakers F_R_state F_R_street F_R_swings F_R_text F_R_undo F_R_vote F_R_who (K_L_law_1533 L X) x3) I).trans h)
  · intro pc ls st I2 h1 h2 h3 h
    rcases mC_ok h with ⟨hb, h⟩ | ⟨_, h⟩
    · have e := Nat.eq_of_beq_eq_true hb
      subst e
      obtain ⟨hst, h⟩ := mN_ok h
      subst hst
      refine at_leaf (ls2 := [(9997, .ref 1000000), (111, .ref 0), (112, .ref 207), (0, .int x3)]) h3.1 ⟨Or.inr ⟨_, (h3.2 0 rfl).trans rfl⟩, Or.inr ⟨_, (h3.2 1 rfl).trans rfl⟩, Or.inr ⟨_, (h3.2 2 rfl).trans rfl⟩, Or.inr ⟨_, (h3.2 3 rfl).trans rfl⟩, trivial⟩ ?_
      exact s_L_law_1533 L X hcs x3 qb qr _ _ _ h hq
    cases h
  · intro v I2 _ h
    split at h
    · cases h; exact qr _ _ hq
    · cases h
def K_L_law_1148 (L : Nat) (X : Nat → Int32) (x3 : Int32) : M ((Int32) ⊕ (Int32)) :=
  bn (gd (inR (x3 + (1 : Int32)) L)) fun _ =>
  bn (F_A_boot (X ((x3 + (1 : Int32))).toNatClampNeg)) fun v1 =>
  bn (gd (inR (x3 + (1 : Int32)) L)) fun _ =>
  bn (F_R_boot (X ((x3 + (1 : Int32))).toNatClampNeg)) fun v2 =>
  (if v1 = v2 then
    K_L_law_1533 L X x3
  else
    bn (gdZ (0 : Int32)) fun _ => rt (.inr (0 : Int32)))
set_option maxRecDepth 4000 in
theorem e_s_L_law_1148 (f_A_act : Int32 → Int32 → Int32 → M Int32) (f_A_alias : Int32 → Int32 → Int32 → M Int32) (f_A_bed : Int32 → Int32 → M Int32) (f_A_beds : Int32 → M Int32) (f_A_birthdays : Int32 → Int32 → Int32 → M Int32) (f_A_book : Int32 → Int32 → M Int32) (f_A_boot : Int32 → M Int32) (f_A_box : Int32 → M Int32) (f_A_end : Int32 → M Int32) (f_A_fault : Int32 → M Int32) (f_A_feed : Int32 → Int32 → Int32 → Int32 → Int32 → M Int32) (f_A_game : Int32 → Int32 → Int32 → M Int32) (f_A_goes : Int32 → Int32 → M Int32) (f_A_hoop : Int32 → Int32 → Int32 → M Int32) (f_A_hours : Int32 → M Int32) (f_A_image : Int32 → M Int32) (f_A_keeps : Int32 → M Int32) (f_A_least : Int32 → M Int32) (f_A_letter : Int32 → Int32 → M Int32) (f_A_loan : Int32 → Int32 → Int32 → M Int32) (f_A_look : Int32 → M Int32) (f_A_named : Int32 → M Int32) (f_A_names : Int32 → M Int32) (f_A_net : Int32 → Int32 → M Int32) (f_A_notes : Int32 → M Int32) (f_A_of : Int32 → Int32 → M Int32) (f_A_pair : Int32 → Int32 → Int32 → M Int32) (f_A_person : Int32 → Int32 → M Int32) (f_A_persons : Int32 → Int32 → M Int32) (f_A_says : Int32 → Int32 → Int32 → M Int32) (f_A_set : Int32 → Int32 → Int32 → M Int32) (f_A_settled : Int32 → M Int32) (f_A_sighted : Int32 → Int32 → M Int32) (f_A_speakers : Int32 → M Int32) (f_A_state : Int32 → M Int32) (f_A_street : Int32 → Int32 → M Int32) (f_A_swings : Int32 → Int32 → M Int32) (f_A_text : Int32 → M Int32) (f_A_undo : M Int32) (f_A_vote : Int32 → M Int32) (f_A_who : Int32 → Int32 → M Int32) (f_R_act : Int32 → Int32 → Int32 → M Int32) (f_R_alias : Int32 → Int32 → Int32 → M Int32) (f_R_bed : Int32 → Int32 → M Int32) (f_R_beds : Int32 → M Int32) (f_R_birthdays : Int32 → Int32 → Int32 → M Int32) (f_R_book : Int32 → Int32 → M Int32) (f_R_boot : Int32 → M Int32) (f_R_box : Int32 → M Int32) (f_R_end : Int32 → M Int32) (f_R_fault : Int32 → M Int32) (f_R_feed : Int32 → Int32 → Int32 → Int32 → Int32 → M Int32) (f_R_game : Int32 → Int32 → Int32 → M Int32) (f_R_goes : Int32 → Int32 → M Int32) (f_R_hoop : Int32 → Int32 → Int32 → M Int32) (f_R_hours : Int32 → M Int32) (f_R_image : Int32 → M Int32) (f_R_keeps : Int32 → M Int32) (f_R_least : Int32 → M Int32) (f_R_letter : Int32 → Int32 → M Int32) (f_R_loan : Int32 → Int32 → Int32 → M Int32) (f_R_look : Int32 → M Int32) (f_R_named : Int32 → M Int32) (f_R_names : Int32 → M Int32) (f_R_net : Int32 → Int32 → M Int32) (f_R_notes : Int32 → M Int32) (f_R_of : Int32 → Int32 → M Int32) (f_R_pair : Int32 → Int32 → Int32 → M Int32) (f_R_person : Int32 → Int32 → M Int32) (f_R_persons : Int32 → Int32 → M Int32) (f_R_says : Int32 → Int32 → Int32 → M Int32) (f_R_set : Int32 → Int32 → Int32 → M Int32) (f_R_settled : Int32 → M Int32) (f_R_sighted : Int32 → Int32 → M Int32) (f_R_speakers : Int32 → M Int32) (f_R_state : Int32 → M Int32) (f_R_street : Int32 → Int32 → M Int32) (f_R_swings : Int32 → Int32 → M Int32) (f_R_text : Int32 → M Int32) (f_R_undo : M Int32) (f_R_vote : Int32 → M Int32) (f_R_who : Int32 → Int32 → M Int32) (k_1533 : Int32 → M ((Int32) ⊕ (Int32))) (x3 : Int32) : wf (β := (Int32) ⊕ (Int32)) L X q_L_law 2 (cs_L_law f_A_act f_A_alias f_A_bed f_A_beds f_A_birthdays f_A_book f_A_boot f_A_box f_A_end f_A_fault f_A_feed f_A_game f_A_goes f_A_hoop f_A_hours f_A_image f_A_keeps f_A_least f_A_letter f_A_loan f_A_look f_A_named f_A_names f_A_net f_A_notes f_A_of f_A_pair f_A_person f_A_persons f_A_says f_A_set f_A_settled f_A_sighted f_A_speakers f_A_state f_A_street f_A_swings f_A_text f_A_undo f_A_vote f_A_who f_R_act f_R_alias f_R_bed f_R_beds f_R_birthdays f_R_book f_R_boot f_R_box f_R_end f_R_fault f_R_feed f_R_game f_R_goes f_R_hoop f_R_hours f_R_image f_R_keeps f_R_least f_R_letter f_R_loan f_R_look f_R_named f_R_names f_R_net f_R_notes f_R_of f_R_pair f_R_person f_R_persons f_R_says f_R_set f_R_settled f_R_sighted f_R_speakers f_R_state f_R_street f_R_swings f_R_text f_R_undo f_R_vote f_R_who) [] [18, 212, 235, 268, 311, 354, 397, 420, 483, 506, 529, 552, 585, 618, 651, 684, 717, 740, 773, 806, 865, 888, 947, 970, 993, 1026, 1049, 1092, 1125, 1148, 1171, 1204, 1227, 1250, 1273, 1306, 1349, 1392, 1415, 1458, 1471, 1510, 1533] (fun pc ls st => mC (Nat.beq pc 1533) (mN st <| k_1533 x3) (fl)) (fun v => match v with | some (_, .int x) => rt (.inr x) | _ => fl) 1072 1148 [(9997, .ref 1000000), (111, .ref 0), (112, .ref 207), (0, .int x3)] [] = (bn (gd (inR (x3 + (1 : Int32)) L)) fun _ =>
  bn (f_A_boot (X ((x3 + (1 : Int32))).toNatClampNeg)) fun v1 =>
  bn (gd (inR (x3 + (1 : Int32)) L)) fun _ =>
  bn (f_R_boot (X ((x3 + (1 : Int32))).toNatClampNeg)) fun v2 =>
  (if v1 = v2 then
    k_1533 x3
  else
    bn (gdZ (0 : Int32)) fun _ => rt (.inr (0 : Int32)))) := rfl
theorem s_L_law_1148 {d : Nat} (L : Nat) (X : Nat → Int32) (hcs : AllS L X d (cs_L_law F_A_act F_A_alias F_A_bed F_A_beds F_A_birthdays F_A_book F_A_boot F_A_box F_A_end F_A_fault F_A_feed F_A_game F_A_goes F_A_hoop F_A_hours F_A_image F_A_keeps F_A_least F_A_letter F_A_loan F_A_look F_A_named F_A_names F_A_net F_A_notes F_A_of F_A_pair F_A_person F_A_persons F_A_says F_A_set F_A_settled F_A_sighted F_A_speakers F_A_state F_A_street F_A_swings F_A_text F_A_undo F_A_vote F_A_who F_R_act F_R_alias F_R_bed F_R_beds F_R_birthdays F_R_book F_R_boot F_R_box F_R_end F_R_fault F_R_feed F_R_game F_R_goes F_R_hoop F_R_hours F_R_image F_R_keeps F_R_least F_R_letter F_R_loan F_R_look F_R_named F_R_names F_R_net F_R_notes F_R_of F_R_pair F_R_person F_R_persons F_R_says F_R_set F_R_settled F_R_sighted F_R_speakers F_R_state F_R_street F_R_swings F_R_text F_R_undo F_R_vote F_R_who)) (x3 : Int32) {o : Option Value × PH} {Q : ((Int32) ⊕ (Int32)) → MI → Prop} (qb : ∀ y I, Q (.inl y) I → At L X (d + 1) 331 18 [(9997, .ref 1000000), (111, .ref 0), (112, .ref 207), (0, .int y)] [] I o) (qr : ∀ v I, Q (.inr v) I → o = (some (.int v), HH I)) (I : MI) (r : (Int32) ⊕ (Int32)) (I1 : MI) (h : K_L_law_1148 L X x3 I = some (r, I1)) (hq : Q r I1) : At L X (d + 1) 331 1148 [(9997, .ref 1000000), (111, .ref 0), (112, .ref 207), (0, .int x3)] [] I o := by
  refine wf_ok z_L_law hcs ?_ ?_ _ _ _ _ _ ⟨rfl, rfl, rfl, trivial, trivial⟩ trivial (unm_refl _ _) ((congrFun (e_s_L_law_1148 (L := L) (X := X) F_A_act F_A_alias F_A_bed F_A_beds F_A_birthdays F_A_book F_A_boot F_A_box F_A_end F_A_fault F_A_feed F_A_game F_A_goes F_A_hoop F_A_hours F_A_image F_A_keeps F_A_least F_A_letter F_A_loan F_A_look F_A_named F_A_names F_A_net F_A_notes F_A_of F_A_pair F_A_person F_A_persons F_A_says F_A_set F_A_settled F_A_sighted F_A_speakers F_A_state F_A_street F_A_swings F_A_text F_A_undo F_A_vote F_A_who F_R_act F_R_alias F_R_bed F_R_beds F_R_birthdays F_R_book F_R_boot F_R_box F_R_end F_R_fault F_R_feed F_R_game F_R_goes F_R_hoop F_R_hours F_R_image F_R_keeps F_R_least F_R_letter F_R_loan F_R_look F_R_named F_R_names F_R_net F_R_notes F_R_of F_R_pair F_R_person F_R_persons F_R_says F_R_set F_R_settled F_R_sighted F_R_speakers F_R_state F_R_street F_R_swings F_R_text F_R_undo F_R_vote F_R_who (K_L_law_1533 L X) x3) I).trans h)
  · intro pc ls st I2 h1 h2 h3 h
    rcases mC_ok h with ⟨hb, h⟩ | ⟨_, h⟩
    · have e := Nat.eq_of_beq_eq_true hb
      subst e
      obtain ⟨hst, h⟩ := mN_ok h
      subst hst
      refine at_leaf (ls2 := [(9997, .ref 1000000), (111, .ref 0), (112, .ref 207), (0, .int x3)]) h3.1 ⟨Or.inr ⟨_, (h3.2 0 rfl).trans rfl⟩, Or.inr ⟨_, (h3.2 1 rfl).trans rfl⟩, Or.inr ⟨_, (h3.2 2 rfl).trans rfl⟩, Or.inr ⟨_, (h3.2 3 rfl).trans rfl⟩, trivial⟩ ?_
      exact s_L_law_1533 L X hcs x3 qb qr _ _ _ h hq
    cases h
  · intro v I2 _ h
    split at h
    · cases h; exact qr _ _ hq
    · cases h
def K_L_law_1171 (L : Nat) (X : Nat → Int32) (x3 : Int32) : M ((Int32) ⊕ (Int32)) :=
  bn (gd (inR (x3 + (1 : Int32)) L)) fun _ =>
  bn (gd (inR (x3 + (2 : Int32)) L)) fun _ =>
  bn (F_A_bed (X ((x3 + (1 : Int32))).toNatClampNeg) (X ((x3 + (2 : Int32))).toNatClampNeg)) fun v1 =>
  bn (gd (inR (x3 + (1 : Int32)) L)) fun _ =>
  bn (gd (inR (x3 + (2 : Int32)) L)) fun _ =>
  bn (F_R_bed (X ((x3 + (1 : Int32))).toNatClampNeg) (X ((x3 + (2 : Int32))).toNatClampNeg)) fun v2 =>
  (if v1 = v2 then
    K_L_law_1533 L X x3
  else
    bn (gdZ (0 : Int32)) fun _ => rt (.inr (0 : Int32)))
set_option maxRecDepth 4000 in
theorem e_s_L_law_1171 (f_A_act : Int32 → Int32 → Int32 → M Int32) (f_A_alias : Int32 → Int32 → Int32 → M Int32) (f_A_bed : Int32 → Int32 → M Int32) (f_A_beds : Int32 → M Int32) (f_A_birthdays : Int32 → Int32 → Int32 → M Int32) (f_A_book : Int32 → Int32 → M Int32) (f_A_boot : Int32 → M Int32) (f_A_box : Int32 → M Int32) (f_A_end : Int32 → M Int32) (f_A_fault : Int32 → M Int32) (f_A_feed : Int32 → Int32 → Int32 → Int32 → Int32 → M Int32) (f_A_game : Int32 → Int32 → Int32 → M Int32) (f_A_goes : Int32 → Int32 → M Int32) (f_A_hoop : Int32 → Int32 → Int32 → M Int32) (f_A_hours : Int32 → M Int32) (f_A_image : Int32 → M Int32) (f_A_keeps : Int32 → M Int32) (f_A_least : Int32 → M Int32) (f_A_letter : Int32 → Int32 → M Int32) (f_A_loan : Int32 → Int32 → Int32 → M Int32) (f_A_look : Int32 → M Int32) (f_A_named : Int32 → M Int32) (f_A_names : Int32 → M Int32) (f_A_net : Int32 → Int32 → M Int32) (f_A_notes : Int32 → M Int32) (f_A_of : Int32 → Int32 → M Int32) (f_A_pair : Int32 → Int32 → Int32 → M Int32) (f_A_person : Int32 → Int32 → M Int32) (f_A_persons : Int32 → Int32 → M Int32) (f_A_says : Int32 → Int32 → Int32 → M Int32) (f_A_set : Int32 → Int32 → Int32 → M Int32) (f_A_settled : Int32 → M Int32) (f_A_sighted : Int32 → Int32 → M Int32) (f_A_speakers : Int32 → M Int32) (f_A_state : Int32 → M Int32) (f_A_street : Int32 → Int32 → M Int32) (f_A_swings : Int32 → Int32 → M Int32) (f_A_text : Int32 → M Int32) (f_A_undo : M Int32) (f_A_vote : Int32 → M Int32) (f_A_who : Int32 → Int32 → M Int32) (f_R_act : Int32 → Int32 → Int32 → M Int32) (f_R_alias : Int32 → Int32 → Int32 → M Int32) (f_R_bed : Int32 → Int32 → M Int32) (f_R_beds : Int32 → M Int32) (f_R_birthdays : Int32 → Int32 → Int32 → M Int32) (f_R_book : Int32 → Int32 → M Int32) (f_R_boot : Int32 → M Int32) (f_R_box : Int32 → M Int32) (f_R_end : Int32 → M Int32) (f_R_fault : Int32 → M Int32) (f_R_feed : Int32 → Int32 → Int32 → Int32 → Int32 → M Int32) (f_R_game : Int32 → Int32 → Int32 → M Int32) (f_R_goes : Int32 → Int32 → M Int32) (f_R_hoop : Int32 → Int32 → Int32 → M Int32) (f_R_hours : Int32 → M Int32) (f_R_image : Int32 → M Int32) (f_R_keeps : Int32 → M Int32) (f_R_least : Int32 → M Int32) (f_R_letter : Int32 → Int32 → M Int32) (f_R_loan : Int32 → Int32 → Int32 → M Int32) (f_R_look : Int32 → M Int32) (f_R_named : Int32 → M Int32) (f_R_names : Int32 → M Int32) (f_R_net : Int32 → Int32 → M Int32) (f_R_notes : Int32 → M Int32) (f_R_of : Int32 → Int32 → M Int32) (f_R_pair : Int32 → Int32 → Int32 → M Int32) (f_R_person : Int32 → Int32 → M Int32) (f_R_persons : Int32 → Int32 → M Int32) (f_R_says : Int32 → Int32 → Int32 → M Int32) (f_R_set : Int32 → Int32 → Int32 → M Int32) (f_R_settled : Int32 → M Int32) (f_R_sighted : Int32 → Int32 → M Int32) (f_R_speakers : Int32 → M Int32) (f_R_state : Int32 → M Int32) (f_R_street : Int32 → Int32 → M Int32) (f_R_swings : Int32 → Int32 → M Int32) (f_R_text : Int32 → M Int32) (f_R_undo : M Int32) (f_R_vote : Int32 → M Int32) (f_R_who : Int32 → Int32 → M Int32) (k_1533 : Int32 → M ((Int32) ⊕ (Int32))) (x3 : Int32) : wf (β := (Int32) ⊕ (Int32)) L X q_L_law 2 (cs_L_law f_A_act f_A_alias f_A_bed f_A_beds f_A_birthdays f_A_book f_A_boot f_A_box f_A_end f_A_fault f_A_feed f_A_game f_A_goes f_A_hoop f_A_hours f_A_image f_A_keeps f_A_least f_A_letter f_A_loan f_A_look f_A_named f_A_names f_A_net f_A_notes f_A_of f_A_pair f_A_person f_A_persons f_A_says f_A_set f_A_settled f_A_sighted f_A_speakers f_A_state f_A_street f_A_swings f_A_text f_A_undo f_A_vote f_A_who f_R_act f_R_alias f_R_bed f_R_beds f_R_birthdays f_R_book f_R_boot f_R_box f_R_end f_R_fault f_R_feed f_R_game f_R_goes f_R_hoop f_R_hours f_R_image f_R_keeps f_R_least f_R_letter f_R_loan f_R_look f_R_named f_R_names f_R_net f_R_notes f_R_of f_R_pair f_R_person f_R_persons f_R_says f_R_set f_R_settled f_R_sighted f_R_speakers f_R_state f_R_street f_R_swings f_R_text f_R_undo f_R_vote f_R_who) [] [18, 212, 235, 268, 311, 354, 397, 420, 483, 506, 529, 552, 585, 618, 651, 684, 717, 740, 773, 806, 865, 888, 947, 970, 993, 1026, 1049, 1092, 1125, 1148, 1171, 1204, 1227, 1250, 1273, 1306, 1349, 1392, 1415, 1458, 1471, 1510, 1533] (fun pc ls st => mC (Nat.beq pc 1533) (mN st <| k_1533 x3) (fl)) (fun v => match v with | some (_, .int x) => rt (.inr x) | _ => fl) 1072 1171 [(9997, .ref 1000000), (111, .ref 0), (112, .ref 207), (0, .int x3)] [] = (bn (gd (inR (x3 + (1 : Int32)) L)) fun _ =>
  bn (gd (inR (x3 + (2 : Int32)) L)) fun _ =>
  bn (f_A_bed (X ((x3 + (1 : Int32))).toNatClampNeg) (X ((x3 + (2 : Int32))).toNatClampNeg)) fun v1 =>
  bn (gd (inR (x3 + (1 : Int32)) L)) fun _ =>
  bn (gd (inR (x3 + (2 : Int32)) L)) fun _ =>
  bn (f_R_bed (X ((x3 + (1 : Int32))).toNatClampNeg) (X ((x3 + (2 : Int32))).toNatClampNeg)) fun v2 =>
  (if v1 = v2 then
    k_1533 x3
  else
    bn (gdZ (0 : Int32)) fun _ => rt (.inr (0 : Int32)))) := rfl
theorem s_L_law_1171 {d : Nat} (L : Nat) (X : Nat → Int32) (hcs : AllS L X d (cs_L_law F_A_act F_A_alias F_A_bed F_A_beds F_A_birthdays F_A_book F_A_boot F_A_box F_A_end F_A_fault F_A_feed F_A_game F_A_goes F_A_hoop F_A_hours F_A_image F_A_keeps F_A_least F_A_letter F_A_loan F_A_look F_A_named F_A_names F_A_net F_A_notes F_A_of F_A_pair F_A_person F_A_persons F_A_says F_A_set F_A_settled F_A_sighted F_A_speakers F_A_state F_A_street F_A_swings F_A_text F_A_undo F_A_vote F_A_who F_R_act F_R_alias F_R_bed F_R_beds F_R_birthdays F_R_book F_R_boot F_R_box F_R_end F_R_fault F_R_feed F_R_game F_R_goes F_R_hoop F_R_hours F_R_image F_R_keeps F_R_least F_R_letter F_R_loan F_R_look F_R_named F_R_names F_R_net F_R_notes F_R_of F_R_pair F_R_person F_R_persons F_R_says F_R_set F_R_settled F_R_sighted F_R_speakers F_R_state F_R_street F_R_swings F_R_text F_R_undo F_R_vote F_R_who)) (x3 : Int32) {o : Option Value × PH} {Q : ((Int32) ⊕ (Int32)) → MI → Prop} (qb : ∀ y I, Q (.inl y) I → At L X (d + 1) 331 18 [(9997, .ref 1000000), (111, .ref 0), (112, .ref 207), (0, .int y)] [] I o) (qr : ∀ v I, Q (.inr v) I → o = (some (.int v), HH I)) (I : MI) (r : (Int32) ⊕ (Int32)) (I1 : MI) (h : K_L_law_1171 L X x3 I = some (r, I1)) (hq : Q r I1) : At L X (d + 1) 331 1171 [(9997, .ref 1000000), (111, .ref 0), (112, .ref 207), (0, .int x3)] [] I o := by
  refine wf_ok z_L_law hcs ?_ ?_ _ _ _ _ _ ⟨rfl, rfl, rfl, trivial, trivial⟩ trivial (unm_refl _ _) ((congrFun (e_s_L_law_1171 (L := L) (X := X) F_A_act F_A_alias F_A_bed F_A_beds F_A_birthdays F_A_book F_A_boot F_A_box F_A_end F_A_fault F_A_feed F_A_game F_A_goes F_A_hoop F_A_hours F_A_image F_A_keeps F_A_least F_A_letter F_A_loan F_A_look F_A_named F_A_names F_A_net F_A_notes F_A_of F_A_pair F_A_person F_A_persons F_A_says F_A_set F_A_settled F_A_sighted F_A_speakers F_A_state F_A_street F_A_swings F_A_text F_A_undo F_A_vote F_A_who F_R_act F_R_alias F_R_bed F_R_beds F_R_birthdays F_R_book F_R_boot F_R_box F_R_end F_R_fault F_R_feed F_R_game F_R_goes F_R_hoop F_R_hours F_R_image F_R_keeps F_R_least F_R_letter F_R_loan F_R_look F_R_named F_R_names F_R_net F_R_notes F_R_of F_R_pair F_R_person F_R_persons F_R_says F_R_set F_R_settled F_R_sighted F_R_speakers F_R_state F_R_street F_R_swings F_R_text F_R_undo F_R_vote F_R_who (K_L_law_1533 L X) x3) I).trans h)
  · intro pc ls st I2 h1 h2 h3 h
    rcases mC_ok h with ⟨hb, h⟩ | ⟨_, h⟩
    · have e := Nat.eq_of_beq_eq_true hb
      subst e
      obtain ⟨hst, h⟩ := mN_ok h
      subst hst
      refine at_leaf (ls2 := [(9997, .ref 1000000), (111, .ref 0), (112, .ref 207), (0, .int x3)]) h3.1 ⟨Or.inr ⟨_, (h3.2 0 rfl).trans rfl⟩, Or.inr ⟨_, (h3.2 1 rfl).trans rfl⟩, Or.inr ⟨_, (h3.2 2 rfl).trans rfl⟩, Or.inr ⟨_, (h3.2 3 rfl).trans rfl⟩, trivial⟩ ?_
      exact s_L_law_1533 L X hcs x3 qb qr _ _ _ h hq
    cases h
  · intro v I2 _ h
    split at h
    · cases h; exact qr _ _ hq
    · cases h
def K_L_law_1204 (L : Nat) (X : Nat → Int32) (x3 : Int32) : M ((Int32) ⊕ (Int32)) :=
  bn (gd (inR (x3 + (1 : Int32)) L)) fun _ =>
  bn (F_A_beds (X ((x3 + (1 : Int32))).toNatClampNeg)) fun v1 =>
  bn (gd (inR (x3 + (1 : Int32)) L)) fun _ =>
  bn (F_R_beds (X ((x3 + (1 : Int32))).toNatClampNeg)) fun v2 =>
  (if v1 = v2 then
    K_L_law_1533 L X x3
  else
    bn (gdZ (0 : Int32)) fun _ => rt (.inr (0 : Int32)))
set_option maxRecDepth 4000 in
theorem e_s_L_law_1204 (f_A_act : Int32 → Int32 → Int32 → M Int32) (f_A_alias : Int32 → Int32 → Int32 → M Int32) (f_A_bed : Int32 → Int32 → M Int32) (f_A_beds : Int32 → M Int32) (f_A_birthdays : Int32 → Int32 → Int32 → M Int32) (f_A_book : Int32 → Int32 → M Int32) (f_A_boot : Int32 → M Int32) (f_A_box : Int32 → M Int32) (f_A_end : Int32 → M Int32) (f_A_fault : Int32 → M Int32) (f_A_feed : Int32 → Int32 → Int32 → Int32 → Int32 → M Int32) (f_A_game : Int32 → Int32 → Int32 → M Int32) (f_A_goes : Int32 → Int32 → M Int32) (f_A_hoop : Int32 → Int32 → Int32 → M Int32) (f_A_hours : Int32 → M Int32) (f_A_image : Int32 → M Int32) (f_A_keeps : Int32 → M Int32) (f_A_least : Int32 → M Int32) (f_A_letter : Int32 → Int32 → M Int32) (f_A_loan : Int32 → Int32 → Int32 → M Int32) (f_A_look : Int32 → M Int32) (f_A_named : Int32 → M Int32) (f_A_names : Int32 → M Int32) (f_A_net : Int32 → Int32 → M Int32) (f_A_notes : Int32 → M Int32) (f_A_of : Int32 → Int32 → M Int32) (f_A_pair : Int32 → Int32 → Int32 → M Int32) (f_A_person : Int32 → Int32 → M Int32) (f_A_persons : Int32 → Int32 → M Int32) (f_A_says : Int32 → Int32 → Int32 → M Int32) (f_A_set : Int32 → Int32 → Int32 → M Int32) (f_A_settled : Int32 → M Int32) (f_A_sighted : Int32 → Int32 → M Int32) (f_A_speakers : Int32 → M Int32) (f_A_state : Int32 → M Int32) (f_A_street : Int32 → Int32 → M Int32) (f_A_swings : Int32 → Int32 → M Int32) (f_A_text : Int32 → M Int32) (f_A_undo : M Int32) (f_A_vote : Int32 → M Int32) (f_A_who : Int32 → Int32 → M Int32) (f_R_act : Int32 → Int32 → Int32 → M Int32) (f_R_alias : Int32 → Int32 → Int32 → M Int32) (f_R_bed : Int32 → Int32 → M Int32) (f_R_beds : Int32 → M Int32) (f_R_birthdays : Int32 → Int32 → Int32 → M Int32) (f_R_book : Int32 → Int32 → M Int32) (f_R_boot : Int32 → M Int32) (f_R_box : Int32 → M Int32) (f_R_end : Int32 → M Int32) (f_R_fault : Int32 → M Int32) (f_R_feed : Int32 → Int32 → Int32 → Int32 → Int32 → M Int32) (f_R_game : Int32 → Int32 → Int32 → M Int32) (f_R_goes : Int32 → Int32 → M Int32) (f_R_hoop : Int32 → Int32 → Int32 → M Int32) (f_R_hours : Int32 → M Int32) (f_R_image : Int32 → M Int32) (f_R_keeps : Int32 → M Int32) (f_R_least : Int32 → M Int32) (f_R_letter : Int32 → Int32 → M Int32) (f_R_loan : Int32 → Int32 → Int32 → M Int32) (f_R_look : Int32 → M Int32) (f_R_named : Int32 → M Int32) (f_R_names : Int32 → M Int32) (f_R_net : Int32 → Int32 → M Int32) (f_R_notes : Int32 → M Int32) (f_R_of : Int32 → Int32 → M Int32) (f_R_pair : Int32 → Int32 → Int32 → M Int32) (f_R_person : Int32 → Int32 → M Int32) (f_R_persons : Int32 → Int32 → M Int32) (f_R_says : Int32 → Int32 → Int32 → M Int32) (f_R_set : Int32 → Int32 → Int32 → M Int32) (f_R_settled : Int32 → M Int32) (f_R_sighted : Int32 → Int32 → M Int32) (f_R_speakers : Int32 → M Int32) (f_R_state : Int32 → M Int32) (f_R_street : Int32 → Int32 → M Int32) (f_R_swings : Int32 → Int32 → M Int32) (f_R_text : Int32 → M Int32) (f_R_undo : M Int32) (f_R_vote : Int32 → M Int32) (f_R_who : Int32 → Int32 → M Int32) (k_1533 : Int32 → M ((Int32) ⊕ (Int32))) (x3 : Int32) : wf (β := (Int32) ⊕ (Int32)) L X q_L_law 2 (cs_L_law f_A_act f_A_alias f_A_bed f_A_beds f_A_birthdays f_A_book f_A_boot f_A_box f_A_end f_A_fault f_A_feed f_A_game f_A_goes f_A_hoop f_A_hours f_A_image f_A_keeps f_A_least f_A_letter f_A_loan f_A_look f_A_named f_A_names f_A_net f_A_notes f_A_of f_A_pair f_A_person f_A_persons f_A_says f_A_set f_A_settled f_A_sighted f_A_speakers f_A_state f_A_street f_A_swings f_A_text f_A_undo f_A_vote f_A_who f_R_act f_R_alias f_R_bed f_R_beds f_R_birthdays f_R_book f_R_boot f_R_box f_R_end f_R_fault f_R_feed f_R_game f_R_goes f_R_hoop f_R_hours f_R_image f_R_keeps f_R_least f_R_letter f_R_loan f_R_look f_R_named f_R_names f_R_net f_R_notes f_R_of f_R_pair f_R_person f_R_persons f_R_says f_R_set f_R_settled f_R_sighted f_R_speakers f_R_state f_R_street f_R_swings f_R_text f_R_undo f_R_vote f_R_who) [] [18, 212, 235, 268, 311, 354, 397, 420, 483, 506, 529, 552, 585, 618, 651, 684, 717, 740, 773, 806, 865, 888, 947, 970, 993, 1026, 1049, 1092, 1125, 1148, 1171, 1204, 1227, 1250, 1273, 1306, 1349, 1392, 1415, 1458, 1471, 1510, 1533] (fun pc ls st => mC (Nat.beq pc 1533) (mN st <| k_1533 x3) (fl)) (fun v => match v with | some (_, .int x) => rt (.inr x) | _ => fl) 1072 1204 [(9997, .ref 1000000), (111, .ref 0), (112, .ref 207), (0, .int x3)] [] = (bn (gd (inR (x3 + (1 : Int32)) L)) fun _ =>
  bn (f_A_beds (X ((x3 + (1 : Int32))).toNatClampNeg)) fun v1 =>
  bn (gd (inR (x3 + (1 : Int32)) L)) fun _ =>
  bn (f_R_beds (X ((x3 + (1 : Int32))).toNatClampNeg)) fun v2 =>
  (if v1 = v2 then
    k_1533 x3
  else
    bn (gdZ (0 : Int32)) fun _ => rt (.inr (0 : Int32)))) := rfl
theorem s_L_law_1204 {d : Nat} (L : Nat) (X : Nat → Int32) (hcs : AllS L X d (cs_L_law F_A_act F_A_alias F_A_bed F_A_beds F_A_birthdays F_A_book F_A_boot F_A_box F_A_end F_A_fault F_A_feed F_A_game F_A_goes F_A_hoop F_A_hours F_A_image F_A_keeps F_A_least F_A_letter F_A_loan F_A_look F_A_named F_A_names F_A_net F_A_notes F_A_of F_A_pair F_A_person F_A_persons F_A_says F_A_set F_A_settled F_A_sighted F_A_speakers F_A_state F_A_street F_A_swings F_A_text F_A_undo F_A_vote F_A_who F_R_act F_R_alias F_R_bed F_R_beds F_R_birthdays F_R_book F_R_boot F_R_box F_R_end F_R_fault F_R_feed F_R_game F_R_goes F_R_hoop F_R_hours F_R_image F_R_keeps F_R_least F_R_letter F_R_loan F_R_look F_R_named F_R_names F_R_net F_R_notes F_R_of F_R_pair F_R_person F_R_persons F_R_says F_R_set F_R_settled F_R_sighted F_R_speakers F_R_state F_R_street F_R_swings F_R_text F_R_undo F_R_vote F_R_who)) (x3 : Int32) {o : Option Value × PH} {Q : ((Int32) ⊕ (Int32)) → MI → Prop} (qb : ∀ y I, Q (.inl y) I → At L X (d + 1) 331 18 [(9997, .ref 1000000), (111, .ref 0), (112, .ref 207), (0, .int y)] [] I o) (qr : ∀ v I, Q (.inr v) I → o = (some (.int v), HH I)) (I : MI) (r : (Int32) ⊕ (Int32)) (I1 : MI) (h : K_L_law_1204 L X x3 I = some (r, I1)) (hq : Q r I1) : At L X (d + 1) 331 1204 [(9997, .ref 1000000), (111, .ref 0), (112, .ref 207), (0, .int x3)] [] I o := by
  refine wf_ok z_L_law hcs ?_ ?_ _ _ _ _ _ ⟨rfl, rfl, rfl, trivial, trivial⟩ trivial (unm_refl _ _) ((congrFun (e_s_L_law_1204 (L := L) (X := X) F_A_act F_A_alias F_A_bed F_A_beds F_A_birthdays F_A_book F_A_boot F_A_box F_A_end F_A_fault F_A_feed F_A_game F_A_goes F_A_hoop F_A_hours F_A_image F_A_keeps F_A_least F_A_letter F_A_loan F_A_look F_A_named F_A_names F_A_net F_A_notes F_A_of F_A_pair F_A_person F_A_persons F_A_says F_A_set F_A_settled F_A_sighted F_A_speakers F_A_state F_A_street F_A_swings F_A_text F_A_undo F_A_vote F_A_who F_R_act F_R_alias F_R_bed F_R_beds F_R_birthdays F_R_book F_R_boot F_R_box F_R_end F_R_fault F_R_feed F_R_game F_R_goes F_R_hoop F_R_hours F_R_image F_R_keeps F_R_least F_R_letter F_R_loan F_R_look F_R_named F_R_names F_R_net F_R_notes F_R_of F_R_pair F_R_person F_R_persons F_R_says F_R_set F_R_settled F_R_sighted F_R_speakers F_R_state F_R_street F_R_swings F_R_text F_R_undo F_R_vote F_R_who (K_L_law_1533 L X) x3) I).trans h)
  · intro pc ls st I2 h1 h2 h3 h
    rcases mC_ok h with ⟨hb, h⟩ | ⟨_, h⟩
    · have e := Nat.eq_of_beq_eq_true hb
      subst e
      obtain ⟨hst, h⟩ := mN_ok h
      subst hst
      refine at_leaf (ls2 := [(9997, .ref 1000000), (111, .ref 0), (112, .ref 207), (0, .int x3)]) h3.1 ⟨Or.inr ⟨_, (h3.2 0 rfl).trans rfl⟩, Or.inr ⟨_, (h3.2 1 rfl).trans rfl⟩, Or.inr ⟨_, (h3.2 2 rfl).trans rfl⟩, Or.inr ⟨_, (h3.2 3 rfl).trans rfl⟩, trivial⟩ ?_
      exact s_L_law_1533 L X hcs x3 qb qr _ _ _ h hq
    cases h
  · intro v I2 _ h
    split at h
    · cases h; exact qr _ _ hq
    · cases h
def K_L_law_1227 (L : Nat) (X : Nat → Int32) (x3 : Int32) : M ((Int32) ⊕ (Int32)) :=
  bn (gd (inR (x3 + (1 : Int32)) L)) fun _ =>
  bn (F_A_box (X ((x3 + (1 : Int32))).toNatClampNeg)) fun v1 =>
  bn (gd (inR (x3 + (1 : Int32)) L)) fun _ =>
  bn (F_R_box (X ((x3 + (1 : Int32))).toNatClampNeg)) fun v2 =>
  (if v1 = v2 then
    K_L_law_1533 L X x3
  else
    bn (gdZ (0 : Int32)) fun _ => rt (.inr (0 : Int32)))
set_option maxRecDepth 4000 in
theorem e_s_L_law_1227 (f_A_act : Int32 → Int32 → Int32 → M Int32) (f_A_alias : Int32 → Int32 → Int32 → M Int32) (f_A_bed : Int32 → Int32 → M Int32) (f_A_beds : Int32 → M Int32) (f_A_birthdays : Int32 → Int32 → Int32 → M Int32) (f_A_book : Int32 → Int32 → M Int32) (f_A_boot : Int32 → M Int32) (f_A_box : Int32 → M Int32) (f_A_end : Int32 → M Int32) (f_A_fault : Int32 → M Int32) (f_A_feed : Int32 → Int32 → Int32 → Int32 → Int32 → M Int32) (f_A_game : Int32 → Int32 → Int32 → M Int32) (f_A_goes : Int32 → Int32 → M Int32) (f_A_hoop : Int32 → Int32 → Int32 → M Int32) (f_A_hours : Int32 → M Int32) (f_A_image : Int32 → M Int32) (f_A_keeps : Int32 → M Int32) (f_A_least : Int32 → M Int32) (f_A_letter : Int32 → Int32 → M Int32) (f_A_loan : Int32 → Int32 → Int32 → M Int32) (f_A_look : Int32 → M Int32) (f_A_named : Int32 → M Int32) (f_A_names : Int32 → M Int32) (f_A_net : Int32 → Int32 → M Int32) (f_A_notes : Int32 → M Int32) (f_A_of : Int32 → Int32 → M Int32) (f_A_pair : Int32 → Int32 → Int32 → M Int32) (f_A_person : Int32 → Int32 → M Int32) (f_A_persons : Int32 → Int32 → M Int32) (f_A_says : Int32 → Int32 → Int32 → M Int32) (f_A_set : Int32 → Int32 → Int32 → M Int32) (f_A_settled : Int32 → M Int32) (f_A_sighted : Int32 → Int32 → M Int32) (f_A_speakers : Int32 → M Int32) (f_A_state : Int32 → M Int32) (f_A_street : Int32 → Int32 → M Int32) (f_A_swings : Int32 → Int32 → M Int32) (f_A_text : Int32 → M Int32) (f_A_undo : M Int32) (f_A_vote : Int32 → M Int32) (f_A_who : Int32 → Int32 → M Int32) (f_R_act : Int32 → Int32 → Int32 → M Int32) (f_R_alias : Int32 → Int32 → Int32 → M Int32) (f_R_bed : Int32 → Int32 → M Int32) (f_R_beds : Int32 → M Int32) (f_R_birthdays : Int32 → Int32 → Int32 → M Int32) (f_R_book : Int32 → Int32 → M Int32) (f_R_boot : Int32 → M Int32) (f_R_box : Int32 → M Int32) (f_R_end : Int32 → M Int32) (f_R_fault : Int32 → M Int32) (f_R_feed : Int32 → Int32 → Int32 → Int32 → Int32 → M Int32) (f_R_game : Int32 → Int32 → Int32 → M Int32) (f_R_goes : Int32 → Int32 → M Int32) (f_R_hoop : Int32 → Int32 → Int32 → M Int32) (f_R_hours : Int32 → M Int32) (f_R_image : Int32 → M Int32) (f_R_keeps : Int32 → M Int32) (f_R_least : Int32 → M Int32) (f_R_letter : Int32 → Int32 → M Int32) (f_R_loan : Int32 → Int32 → Int32 → M Int32) (f_R_look : Int32 → M Int32) (f_R_named : Int32 → M Int32) (f_R_names : Int32 → M Int32) (f_R_net : Int32 → Int32 → M Int32) (f_R_notes : Int32 → M Int32) (f_R_of : Int32 → Int32 → M Int32) (f_R_pair : Int32 → Int32 → Int32 → M Int32) (f_R_person : Int32 → Int32 → M Int32) (f_R_persons : Int32 → Int32 → M Int32) (f_R_says : Int32 → Int32 → Int32 → M Int32) (f_R_set : Int32 → Int32 → Int32 → M Int32) (f_R_settled : Int32 → M Int32) (f_R_sighted : Int32 → Int32 → M Int32) (f_R_speakers : Int32 → M Int32) (f_R_state : Int32 → M Int32) (f_R_street : Int32 → Int32 → M Int32) (f_R_swings : Int32 → Int32 → M Int32) (f_R_text : Int32 → M Int32) (f_R_undo : M Int32) (f_R_vote : Int32 → M Int32) (f_R_who : Int32 → Int32 → M Int32) (k_1533 : Int32 → M ((Int32) ⊕ (Int32))) (x3 : Int32) : wf (β := (Int32) ⊕ (Int32)) L X q_L_law 2 (cs_L_law f_A_act f_A_alias f_A_bed f_A_beds f_A_birthdays f_A_book f_A_boot f_A_box f_A_end f_A_fault f_A_feed f_A_game f_A_goes f_A_hoop f_A_hours f_A_image f_A_keeps f_A_least f_A_letter f_A_loan f_A_look f_A_named f_A_names f_A_net f_A_notes f_A_of f_A_pair f_A_person f_A_persons f_A_says f_A_set f_A_settled f_A_sighted f_A_speakers f_A_state f_A_street f_A_swings f_A_text f_A_undo f_A_vote f_A_who f_R_act f_R_alias f_R_bed f_R_beds f_R_birthdays f_R_book f_R_boot f_R_box f_R_end f_R_fault f_R_feed f_R_game f_R_goes f_R_hoop f_R_hours f_R_image f_R_keeps f_R_least f_R_letter f_R_loan f_R_look f_R_named f_R_names f_R_net f_R_notes f_R_of f_R_pair f_R_person f_R_persons f_R_says f_R_set f_R_settled f_R_sighted f_R_speakers f_R_state f_R_street f_R_swings f_R_text f_R_undo f_R_vote f_R_who) [] [18, 212, 235, 268, 311, 354, 397, 420, 483, 506, 529, 552, 585, 618, 651, 684, 717, 740, 773, 806, 865, 888, 947, 970, 993, 1026, 1049, 1092, 1125, 1148, 1171, 1204, 1227, 1250, 1273, 1306, 1349, 1392, 1415, 1458, 1471, 1510, 1533] (fun pc ls st => mC (Nat.beq pc 1533) (mN st <| k_1533 x3) (fl)) (fun v => match v with | some (_, .int x) => rt (.inr x) | _ => fl) 1072 1227 [(9997, .ref 1000000), (111, .ref 0), (112, .ref 207), (0, .int x3)] [] = (bn (gd (inR (x3 + (1 : Int32)) L)) fun _ =>
  bn (f_A_box (X ((x3 + (1 : Int32))).toNatClampNeg)) fun v1 =>
  bn (gd (inR (x3 + (1 : Int32)) L)) fun _ =>
  bn (f_R_box (X ((x3 + (1 : Int32))).toNatClampNeg)) fun v2 =>
  (if v1 = v2 then
    k_1533 x3
  else
    bn (gdZ (0 : Int32)) fun _ => rt (.inr (0 : Int32)))) := rfl
theorem s_L_law_1227 {d : Nat} (L : Nat) (X : Nat → Int32) (hcs : AllS L X d (cs_L_law F_A_act F_A_alias F_A_bed F_A_beds F_A_birthdays F_A_book F_A_boot F_A_box F_A_end F_A_fault F_A_feed F_A_game F_A_goes F_A_hoop F_A_hours F_A_image F_A_keeps F_A_least F_A_letter F_A_loan F_A_look F_A_named F_A_names F_A_net F_A_notes F_A_of F_A_pair F_A_person F_A_persons F_A_says F_A_set F_A_settled F_A_sighted F_A_speakers F_A_state F_A_street F_A_swings F_A_text F_A_undo F_A_vote F_A_who F_R_act F_R_alias F_R_bed F_R_beds F_R_birthdays F_R_book F_R_boot F_R_box F_R_end F_R_fault F_R_feed F_R_game F_R_goes F_R_hoop F_R_hours F_R_image F_R_keeps F_R_least F_R_letter F_R_loan F_R_look F_R_named F_R_names F_R_net F_R_notes F_R_of F_R_pair F_R_person F_R_persons F_R_says F_R_set F_R_settled F_R_sighted F_R_speakers F_R_state F_R_street F_R_swings F_R_text F_R_undo F_R_vote F_R_who)) (x3 : Int32) {o : Option Value × PH} {Q : ((Int32) ⊕ (Int32)) → MI → Prop} (qb : ∀ y I, Q (.inl y) I → At L X (d + 1) 331 18 [(9997, .ref 1000000), (111, .ref 0), (112, .ref 207), (0, .int y)] [] I o) (qr : ∀ v I, Q (.inr v) I → o = (some (.int v), HH I)) (I : MI) (r : (Int32) ⊕ (Int32)) (I1 : MI) (h : K_L_law_1227 L X x3 I = some (r, I1)) (hq : Q r I1) : At L X (d + 1) 331 1227 [(9997, .ref 1000000), (111, .ref 0), (112, .ref 207), (0, .int x3)] [] I o := by
  refine wf_ok z_L_law hcs ?_ ?_ _ _ _ _ _ ⟨rfl, rfl, rfl, trivial, trivial⟩ trivial (unm_refl _ _) ((congrFun (e_s_L_law_1227 (L := L) (X := X) F_A_act F_A_alias F_A_bed F_A_beds F_A_birthdays F_A_book F_A_boot F_A_box F_A_end F_A_fault F_A_feed F_A_game F_A_goes F_A_hoop F_A_hours F_A_image F_A_keeps F_A_least F_A_letter F_A_loan F_A_look F_A_named F_A_names F_A_net F_A_notes F_A_of F_A_pair F_A_person F_A_persons F_A_says F_A_set F_A_settled F_A_sighted F_A_speakers F_A_state F_A_street F_A_swings F_A_text F_A_undo F_A_vote F_A_who F_R_act F_R_alias F_R_bed F_R_beds F_R_birthdays F_R_book F_R_boot F_R_box F_R_end F_R_fault F_R_feed F_R_game F_R_goes F_R_hoop F_R_hours F_R_image F_R_keeps F_R_least F_R_letter F_R_loan F_R_look F_R_named F_R_names F_R_net F_R_notes F_R_of F_R_pair F_R_person F_R_persons F_R_says F_R_set F_R_settled F_R_sighted F_R_speakers F_R_state F_R_street F_R_swings F_R_text F_R_undo F_R_vote F_R_who (K_L_law_1533 L X) x3) I).trans h)
  · intro pc ls st I2 h1 h2 h3 h
    rcases mC_ok h with ⟨hb, h⟩ | ⟨_, h⟩
    · have e := Nat.eq_of_beq_eq_true hb
      subst e
      obtain ⟨hst, h⟩ := mN_ok h
      subst hst
      refine at_leaf (ls2 := [(9997, .ref 1000000), (111, .ref 0), (112, .ref 207), (0, .int x3)]) h3.1 ⟨Or.inr ⟨_, (h3.2 0 rfl).trans rfl⟩, Or.inr ⟨_, (h3.2 1 rfl).trans rfl⟩, Or.inr ⟨_, (h3.2 2 rfl).trans rfl⟩, Or.inr ⟨_, (h3.2 3 rfl).trans rfl⟩, trivial⟩ ?_
      exact s_L_law_1533 L X hcs x3 qb qr _ _ _ h hq
    cases h
  · intro v I2 _ h
    split at h
    · cases h; exact qr _ _ hq
    · cases h
def K_L_law_1250 (L : Nat) (X : Nat → Int32) (x3 : Int32) : M ((Int32) ⊕ (Int32)) :=
  bn (gd (inR (x3 + (1 : Int32)) L)) fun _ =>
  bn (F_A_named (X ((x3 + (1 : Int32))).toNatClampNeg)) fun v1 =>
  bn (gd (inR (x3 + (1 : Int32)) L)) fun _ =>
  bn (F_R_named (X ((x3 + (1 : Int32))).toNatClampNeg)) fun v2 =>
  (if v1 = v2 then
    K_L_law_1533 L X x3
  else
    bn (gdZ (0 : Int32)) fun _ => rt (.inr (0 : Int32)))
set_option maxRecDepth 4000 in
theorem e_s_L_law_1250 (f_A_act : Int32 → Int32 → Int32 → M Int32) (f_A_alias : Int32 → Int32 → Int32 → M Int32) (f_A_bed : Int32 → Int32 → M Int32) (f_A_beds : Int32 → M Int32) (f_A_birthdays : Int32 → Int32 → Int32 → M Int32) (f_A_book : Int32 → Int32 → M Int32) (f_A_boot : Int32 → M Int32) (f_A_box : Int32 → M Int32) (f_A_end : Int32 → M Int32) (f_A_fault : Int32 → M Int32) (f_A_feed : Int32 → Int32 → Int32 → Int32 → Int32 → M Int32) (f_A_game : Int32 → Int32 → Int32 → M Int32) (f_A_goes : Int32 → Int32 → M Int32) (f_A_hoop : Int32 → Int32 → Int32 → M Int32) (f_A_hours : Int32 → M Int32) (f_A_image : Int32 → M Int32) (f_A_keeps : Int32 → M Int32) (f_A_least : Int32 → M Int32) (f_A_letter : Int32 → Int32 → M Int32) (f_A_loan : Int32 → Int32 → Int32 → M Int32) (f_A_look : Int32 → M Int32) (f_A_named : Int32 → M Int32) (f_A_names : Int32 → M Int32) (f_A_net : Int32 → Int32 → M Int32) (f_A_notes : Int32 → M Int32) (f_A_of : Int32 → Int32 → M Int32) (f_A_pair : Int32 → Int32 → Int32 → M Int32) (f_A_person : Int32 → Int32 → M Int32) (f_A_persons : Int32 → Int32 → M Int32) (f_A_says : Int32 → Int32 → Int32 → M Int32) (f_A_set : Int32 → Int32 → Int32 → M Int32) (f_A_settled : Int32 → M Int32) (f_A_sighted : Int32 → Int32 → M Int32) (f_A_speakers : Int32 → M Int32) (f_A_state : Int32 → M Int32) (f_A_street : Int32 → Int32 → M Int32) (f_A_swings : Int32 → Int32 → M Int32) (f_A_text : Int32 → M Int32) (f_A_undo : M Int32) (f_A_vote : Int32 → M Int32) (f_A_who : Int32 → Int32 → M Int32) (f_R_act : Int32 → Int32 → Int32 → M Int32) (f_R_alias : Int32 → Int32 → Int32 → M Int32) (f_R_bed : Int32 → Int32 → M Int32) (f_R_beds : Int32 → M Int32) (f_R_birthdays : Int32 → Int32 → Int32 → M Int32) (f_R_book : Int32 → Int32 → M Int32) (f_R_boot : Int32 → M Int32) (f_R_box : Int32 → M Int32) (f_R_end : Int32 → M Int32) (f_R_fault : Int32 → M Int32) (f_R_feed : Int32 → Int32 → Int32 → Int32 → Int32 → M Int32) (f_R_game : Int32 → Int32 → Int32 → M Int32) (f_R_goes : Int32 → Int32 → M Int32) (f_R_hoop : Int32 → Int32 → Int32 → M Int32) (f_R_hours : Int32 → M Int32) (f_R_image : Int32 → M Int32) (f_R_keeps : Int32 → M Int32) (f_R_least : Int32 → M Int32) (f_R_letter : Int32 → Int32 → M Int32) (f_R_loan : Int32 → Int32 → Int32 → M Int32) (f_R_look : Int32 → M Int32) (f_R_named : Int32 → M Int32) (f_R_names : Int32 → M Int32) (f_R_net : Int32 → Int32 → M Int32) (f_R_notes : Int32 → M Int32) (f_R_of : Int32 → Int32 → M Int32) (f_R_pair : Int32 → Int32 → Int32 → M Int32) (f_R_person : Int32 → Int32 → M Int32) (f_R_persons : Int32 → Int32 → M Int32) (f_R_says : Int32 → Int32 → Int32 → M Int32) (f_R_set : Int32 → Int32 → Int32 → M Int32) (f_R_settled : Int32 → M Int32) (f_R_sighted : Int32 → Int32 → M Int32) (f_R_speakers : Int32 → M Int32) (f_R_state : Int32 → M Int32) (f_R_street : Int32 → Int32 → M Int32) (f_R_swings : Int32 → Int32 → M Int32) (f_R_text : Int32 → M Int32) (f_R_undo : M Int32) (f_R_vote : Int32 → M Int32) (f_R_who : Int32 → Int32 → M Int32) (k_1533 : Int32 → M ((Int32) ⊕ (Int32))) (x3 : Int32) : wf (β := (Int32) ⊕ (Int32)) L X q_L_law 2 (cs_L_law f_A_act f_A_alias f_A_bed f_A_beds f_A_birthdays f_A_book f_A_boot f_A_box f_A_end f_A_fault f_A_feed f_A_game f_A_goes f_A_hoop f_A_hours f_A_image f_A_keeps f_A_least f_A_letter f_A_loan f_A_look f_A_named f_A_names f_A_net f_A_notes f_A_of f_A_pair f_A_person f_A_persons f_A_says f_A_set f_A_settled f_A_sighted f_A_speakers f_A_state f_A_street f_A_swings f_A_text f_A_undo f_A_vote f_A_who f_R_act f_R_alias f_R_bed f_R_beds f_R_birthdays f_R_book f_R_boot f_R_box f_R_end f_R_fault f_R_feed f_R_game f_R_goes f_R_hoop f_R_hours f_R_image f_R_keeps f_R_least f_R_letter f_R_loan f_R_look f_R_named f_R_names f_R_net f_R_notes f_R_of f_R_pair f_R_person f_R_persons f_R_says f_R_set f_R_settled f_R_sighted f_R_speakers f_R_state f_R_street f_R_swings f_R_text f_R_undo f_R_vote f_R_who) [] [18, 212, 235, 268, 311, 354, 397, 420, 483, 506, 529, 552, 585, 618, 651, 684, 717, 740, 773, 806, 865, 888, 947, 970, 993, 1026, 1049, 1092, 1125, 1148, 1171, 1204, 1227, 1250, 1273, 1306, 1349, 1392, 1415, 1458, 1471, 1510, 1533] (fun pc ls st => mC (Nat.beq pc 1533) (mN st <| k_1533 x3) (fl)) (fun v => match v with | some (_, .int x) => rt (.inr x) | _ => fl) 1072 1250 [(9997, .ref 1000000), (111, .ref 0), (112, .ref 207), (0, .int x3)] [] = (bn (gd (inR (x3 + (1 : Int32)) L)) fun _ =>
  bn (f_A_named (X ((x3 + (1 : Int32))).toNatClampNeg)) fun v1 =>
  bn (gd (inR (x3 + (1 : Int32)) L)) fun _ =>
  bn (f_R_named (X ((x3 + (1 : Int32))).toNatClampNeg)) fun v2 =>
  (if v1 = v2 then
    k_1533 x3
  else
    bn (gdZ (0 : Int32)) fun _ => rt (.inr (0 : Int32)))) := rfl
theorem s_L_law_1250 {d : Nat} (L : Nat) (X : Nat → Int32) (hcs : AllS L X d (cs_L_law F_A_act F_A_alias F_A_bed F_A_beds F_A_birthdays F_A_book F_A_boot F_A_box F_A_end F_A_fault F_A_feed F_A_game F_A_goes F_A_hoop F_A_hours F_A_image F_A_keeps F_A_least F_A_letter F_A_loan F_A_look F_A_named F_A_names F_A_net F_A_notes F_A_of F_A_pair F_A_person F_A_persons F_A_says F_A_set F_A_settled F_A_sighted F_A_speakers F_A_state F_A_street F_A_swings F_A_text F_A_undo F_A_vote F_A_who F_R_act F_R_alias F_R_bed F_R_beds F_R_birthdays F_R_book F_R_boot F_R_box F_R_end F_R_fault F_R_feed F_R_game F_R_goes F_R_hoop F_R_hours F_R_image F_R_keeps F_R_least F_R_letter F_R_loan F_R_look F_R_named F_R_names F_R_net F_R_notes F_R_of F_R_pair F_R_person F_R_persons F_R_says F_R_set F_R_settled F_R_sighted F_R_speakers F_R_state F_R_street F_R_swings F_R_text F_R_undo F_R_vote F_R_who)) (x3 : Int32) {o : Option Value × PH} {Q : ((Int32) ⊕ (Int32)) → MI → Prop} (qb : ∀ y I, Q (.inl y) I → At L X (d + 1) 331 18 [(9997, .ref 1000000), (111, .ref 0), (112, .ref 207), (0, .int y)] [] I o) (qr : ∀ v I, Q (.inr v) I → o = (some (.int v), HH I)) (I : MI) (r : (Int32) ⊕ (Int32)) (I1 : MI) (h : K_L_law_1250 L X x3 I = some (r, I1)) (hq : Q r I1) : At L X (d + 1) 331 1250 [(9997, .ref 1000000), (111, .ref 0), (112, .ref 207), (0, .int x3)] [] I o := by
  refine wf_ok z_L_law hcs ?_ ?_ _ _ _ _ _ ⟨rfl, rfl, rfl, trivial, trivial⟩ trivial (unm_refl _ _) ((congrFun (e_s_L_law_1250 (L := L) (X := X) F_A_act F_A_alias F_A_bed F_A_beds F_A_birthdays F_A_book F_A_boot F_A_box F_A_end F_A_fault F_A_feed F_A_game F_A_goes F_A_hoop F_A_hours F_A_image F_A_keeps F_A_least F_A_letter F_A_loan F_A_look F_A_named F_A_names F_A_net F_A_notes F_A_of F_A_pair F_A_person F_A_persons F_A_says F_A_set F_A_settled F_A_sighted F_A_speakers F_A_state F_A_street F_A_swings F_A_text F_A_undo F_A_vote F_A_who F_R_act F_R_alias F_R_bed F_R_beds F_R_birthdays F_R_book F_R_boot F_R_box F_R_end F_R_fault F_R_feed F_R_game F_R_goes F_R_hoop F_R_hours F_R_image F_R_keeps F_R_least F_R_letter F_R_loan F_R_look F_R_named F_R_names F_R_net F_R_notes F_R_of F_R_pair F_R_person F_R_persons F_R_says F_R_set F_R_settled F_R_sighted F_R_speakers F_R_state F_R_street F_R_swings F_R_text F_R_undo F_R_vote F_R_who (K_L_law_1533 L X) x3) I).trans h)
  · intro pc ls st I2 h1 h2 h3 h
    rcases mC_ok h with ⟨hb, h⟩ | ⟨_, h⟩
    · have e := Nat.eq_of_beq_eq_true hb
      subst e
      obtain ⟨hst, h⟩ := mN_ok h
      subst hst
      refine at_leaf (ls2 := [(9997, .ref 1000000), (111, .ref 0), (112, .ref 207), (0, .int x3)]) h3.1 ⟨Or.inr ⟨_, (h3.2 0 rfl).trans rfl⟩, Or.inr ⟨_, (h3.2 1 rfl).trans rfl⟩, Or.inr ⟨_, (h3.2 2 rfl).trans rfl⟩, Or.inr ⟨_, (h3.2 3 rfl).trans rfl⟩, trivial⟩ ?_
      exact s_L_law_1533 L X hcs x3 qb qr _ _ _ h hq
    cases h
  · intro v I2 _ h
    split at h
    · cases h; exact qr _ _ hq
    · cases h
def K_L_law_1273 (L : Nat) (X : Nat → Int32) (x3 : Int32) : M ((Int32) ⊕ (Int32)) :=
  bn (gd (inR (x3 + (1 : Int32)) L)) fun _ =>
  bn (gd (inR (x3 + (2 : Int32)) L)) fun _ =>
  bn (F_A_net (X ((x3 + (1 : Int32))).toNatClampNeg) (X ((x3 + (2 : Int32))).toNatClampNeg)) fun v1 =>
  bn (gd (inR (x3 + (1 : Int32)) L)) fun _ =>
  bn (gd (inR (x3 + (2 : Int32)) L)) fun _ =>
  bn (F_R_net (X ((x3 + (1 : Int32))).toNatClampNeg) (X ((x3 + (2 : Int32))).toNatClampNeg)) fun v2 =>
  (if v1 = v2 then
    K_L_law_1533 L X x3
  else
    bn (gdZ (0 : Int32)) fun _ => rt (.inr (0 : Int32)))
set_option maxRecDepth 4000 in
theorem e_s_L_law_1273 (f_A_act : Int32 → Int32 → Int32 → M Int32) (f_A_alias : Int32 → Int32 → Int32 → M Int32) (f_A_bed : Int32 → Int32 → M Int32) (f_A_beds : Int32 → M Int32) (f_A_birthdays : Int32 → Int32 → Int32 → M Int32) (f_A_book : Int32 → Int32 → M Int32) (f_A_boot : Int32 → M Int32) (f_A_box : Int32 → M Int32) (f_A_end : Int32 → M Int32) (f_A_fault : Int32 → M Int32) (f_A_feed : Int32 → Int32 → Int32 → Int32 → Int32 → M Int32) (f_A_game : Int32 → Int32 → Int32 → M Int32) (f_A_goes : Int32 → Int32 → M Int32) (f_A_hoop : Int32 → Int32 → Int32 → M Int32) (f_A_hours : Int32 → M Int32) (f_A_image : Int32 → M Int32) (f_A_keeps : Int32 → M Int32) (f_A_least : Int32 → M Int32) (f_A_letter : Int32 → Int32 → M Int32) (f_A_loan : Int32 → Int32 → Int32 → M Int32) (f_A_look : Int32 → M Int32) (f_A_named : Int32 → M Int32) (f_A_names : Int32 → M Int32) (f_A_net : Int32 → Int32 → M Int32) (f_A_notes : Int32 → M Int32) (f_A_of : Int32 → Int32 → M Int32) (f_A_pair : Int32 → Int32 → Int32 → M Int32) (f_A_person : Int32 → Int32 → M Int32) (f_A_persons : Int32 → Int32 → M Int32) (f_A_says : Int32 → Int32 → Int32 → M Int32) (f_A_set : Int32 → Int32 → Int32 → M Int32) (f_A_settled : Int32 → M Int32) (f_A_sighted : Int32 → Int32 → M Int32) (f_A_speakers : Int32 → M Int32) (f_A_state : Int32 → M Int32) (f_A_street : Int32 → Int32 → M Int32) (f_A_swings : Int32 → Int32 → M Int32) (f_A_text : Int32 → M Int32) (f_A_undo : M Int32) (f_A_vote : Int32 → M Int32) (f_A_who : Int32 → Int32 → M Int32) (f_R_act : Int32 → Int32 → Int32 → M Int32) (f_R_alias : Int32 → Int32 → Int32 → M Int32) (f_R_bed : Int32 → Int32 → M Int32) (f_R_beds : Int32 → M Int32) (f_R_birthdays : Int32 → Int32 → Int32 → M Int32) (f_R_book : Int32 → Int32 → M Int32) (f_R_boot : Int32 → M Int32) (f_R_box : Int32 → M Int32) (f_R_end : Int32 → M Int32) (f_R_fault : Int32 → M Int32) (f_R_feed : Int32 → Int32 → Int32 → Int32 → Int32 → M Int32) (f_R_game : Int32 → Int32 → Int32 → M Int32) (f_R_goes : Int32 → Int32 → M Int32) (f_R_hoop : Int32 → Int32 → Int32 → M Int32) (f_R_hours : Int32 → M Int32) (f_R_image : Int32 → M Int32) (f_R_keeps : Int32 → M Int32) (f_R_least : Int32 → M Int32) (f_R_letter : Int32 → Int32 → M Int32) (f_R_loan : Int32 → Int32 → Int32 → M Int32) (f_R_look : Int32 → M Int32) (f_R_named : Int32 → M Int32) (f_R_names : Int32 → M Int32) (f_R_net : Int32 → Int32 → M Int32) (f_R_notes : Int32 → M Int32) (f_R_of : Int32 → Int32 → M Int32) (f_R_pair : Int32 → Int32 → Int32 → M Int32) (f_R_person : Int32 → Int32 → M Int32) (f_R_persons : Int32 → Int32 → M Int32) (f_R_says : Int32 → Int32 → Int32 → M Int32) (f_R_set : Int32 → Int32 → Int32 → M Int32) (f_R_settled : Int32 → M Int32) (f_R_sighted : Int32 → Int32 → M Int32) (f_R_speakers : Int32 → M Int32) (f_R_state : Int32 → M Int32) (f_R_street : Int32 → Int32 → M Int32) (f_R_swings : Int32 → Int32 → M Int32) (f_R_text : Int32 → M Int32) (f_R_undo : M Int32) (f_R_vote : Int32 → M Int32) (f_R_who : Int32 → Int32 → M Int32) (k_1533 : Int32 → M ((Int32) ⊕ (Int32))) (x3 : Int32) : wf (β := (Int32) ⊕ (Int32)) L X q_L_law 2 (cs_L_law f_A_act f_A_alias f_A_bed f_A_beds f_A_birthdays f_A_book f_A_boot f_A_box f_A_end f_A_fault f_A_feed f_A_game f_A_goes f_A_hoop f_A_hours f_A_image f_A_keeps f_A_least f_A_letter f_A_loan f_A_look f_A_named f_A_names f_A_net f_A_notes f_A_of f_A_pair f_A_person f_A_persons f_A_says f_A_set f_A_settled f_A_sighted f_A_speakers f_A_state f_A_street f_A_swings f_A_text f_A_undo f_A_vote f_A_who f_R_act f_R_alias f_R_bed f_R_beds f_R_birthdays f_R_book f_R_boot f_R_box f_R_end f_R_fault f_R_feed f_R_game f_R_goes f_R_hoop f_R_hours f_R_image f_R_keeps f_R_least f_R_letter f_R_loan f_R_look f_R_named f_R_names f_R_net f_R_notes f_R_of f_R_pair f_R_person f_R_persons f_R_says f_R_set f_R_settled f_R_sighted f_R_speakers f_R_state f_R_street f_R_swings f_R_text f_R_undo f_R_vote f_R_who) [] [18, 212, 235, 268, 311, 354, 397, 420, 483, 506, 529, 552, 585, 618, 651, 684, 717, 740, 773, 806, 865, 888, 947, 970, 993, 1026, 1049, 1092, 1125, 1148, 1171, 1204, 1227, 1250, 1273, 1306, 1349, 1392, 1415, 1458, 1471, 1510, 1533] (fun pc ls st => mC (Nat.beq pc 1533) (mN st <| k_1533 x3) (fl)) (fun v => match v with | some (_, .int x) => rt (.inr x) | _ => fl) 1072 1273 [(9997, .ref 1000000), (111, .ref 0), (112, .ref 207), (0, .int x3)] [] = (bn (gd (inR (x3 + (1 : Int32)) L)) fun _ =>
  bn (gd (inR (x3 + (2 : Int32)) L)) fun _ =>
  bn (f_A_net (X ((x3 + (1 : Int32))).toNatClampNeg) (X ((x3 + (2 : Int32))).toNatClampNeg)) fun v1 =>
  bn (gd (inR (x3 + (1 : Int32)) L)) fun _ =>
  bn (gd (inR (x3 + (2 : Int32)) L)) fun _ =>
  bn (f_R_net (X ((x3 + (1 : Int32))).toNatClampNeg) (X ((x3 + (2 : Int32))).toNatClampNeg)) fun v2 =>
  (if v1 = v2 then
    k_1533 x3
  else
    bn (gdZ (0 : Int32)) fun _ => rt (.inr (0 : Int32)))) := rfl
theorem s_L_law_1273 {d : Nat} (L : Nat) (X : Nat → Int32) (hcs : AllS L X d (cs_L_law F_A_act F_A_alias F_A_bed F_A_beds F_A_birthdays F_A_book F_A_boot F_A_box F_A_end F_A_fault F_A_feed F_A_game F_A_goes F_A_hoop F_A_hours F_A_image F_A_keeps F_A_least F_A_letter F_A_loan F_A_look F_A_named F_A_names F_A_net F_A_notes F_A_of F_A_pair F_A_person F_A_persons F_A_says F_A_set F_A_settled F_A_sighted F_A_speakers F_A_state F_A_street F_A_swings F_A_text F_A_undo F_A_vote F_A_who F_R_act F_R_alias F_R_bed F_R_beds F_R_birthdays F_R_book F_R_boot F_R_box F_R_end F_R_fault F_R_feed F_R_game F_R_goes F_R_hoop F_R_hours F_R_image F_R_keeps F_R_least F_R_letter F_R_loan F_R_look F_R_named F_R_names F_R_net F_R_notes F_R_of F_R_pair F_R_person F_R_persons F_R_says F_R_set F_R_settled F_R_sighted F_R_speakers F_R_state F_R_street F_R_swings F_R_text F_R_undo F_R_vote F_R_who)) (x3 : Int32) {o : Option Value × PH} {Q : ((Int32) ⊕ (Int32)) → MI → Prop} (qb : ∀ y I, Q (.inl y) I → At L X (d + 1) 331 18 [(9997, .ref 1000000), (111, .ref 0), (112, .ref 207), (0, .int y)] [] I o) (qr : ∀ v I, Q (.inr v) I → o = (some (.int v), HH I)) (I : MI) (r : (Int32) ⊕ (Int32)) (I1 : MI) (h : K_L_law_1273 L X x3 I = some (r, I1)) (hq : Q r I1) : At L X (d + 1) 331 1273 [(9997, .ref 1000000), (111, .ref 0), (112, .ref 207), (0, .int x3)] [] I o := by
  refine wf_ok z_L_law hcs ?_ ?_ _ _ _ _ _ ⟨rfl, rfl, rfl, trivial, trivial⟩ trivial (unm_refl _ _) ((congrFun (e_s_L_law_1273 (L := L) (X := X) F_A_act F_A_alias F_A_bed F_A_beds F_A_birthdays F_A_book F_A_boot F_A_box F_A_end F_A_fault F_A_feed F_A_game F_A_goes F_A_hoop F_A_hours F_A_image F_A_keeps F_A_least F_A_letter F_A_loan F_A_look F_A_named F_A_names F_A_net F_A_notes F_A_of F_A_pair F_A_person F_A_persons F_A_says F_A_set F_A_settled F_A_sighted F_A_speakers F_A_state F_A_street F_A_swings F_A_text F_A_undo F_A_vote F_A_who F_R_act F_R_alias F_R_bed F_R_beds F_R_birthdays F_R_book F_R_boot F_R_box F_R_end F_R_fault F_R_feed F_R_game F_R_goes F_R_hoop F_R_hours F_R_image F_R_keeps F_R_least F_R_letter F_R_loan F_R_look F_R_named F_R_names F_R_net F_R_notes F_R_of F_R_pair F_R_person F_R_persons F_R_says F_R_set F_R_settled F_R_sighted F_R_speakers F_R_state F_R_street F_R_swings F_R_text F_R_undo F_R_vote F_R_who (K_L_law_1533 L X) x3) I).trans h)
  · intro pc ls st I2 h1 h2 h3 h
    rcases mC_ok h with ⟨hb, h⟩ | ⟨_, h⟩
    · have e := Nat.eq_of_beq_eq_true hb
      subst e
      obtain ⟨hst, h⟩ := mN_ok h
      subst hst
      refine at_leaf (ls2 := [(9997, .ref 1000000), (111, .ref 0), (112, .ref 207), (0, .int x3)]) h3.1 ⟨Or.inr ⟨_, (h3.2 0 rfl).trans rfl⟩, Or.inr ⟨_, (h3.2 1 rfl).trans rfl⟩, Or.inr ⟨_, (h3.2 2 rfl).trans rfl⟩, Or.inr ⟨_, (h3.2 3 rfl).trans rfl⟩, trivial⟩ ?_
      exact s_L_law_1533 L X hcs x3 qb qr _ _ _ h hq
    cases h
  · intro v I2 _ h
    split at h
    · cases h; exact qr _ _ hq
    · cases h
def K_L_law_1306 (L : Nat) (X : Nat → Int32) (x3 : Int32) : M ((Int32) ⊕ (Int32)) :=
  bn (gd (inR (x3 + (1 : Int32)) L)) fun _ =>
  bn (gd (inR (x3 + (2 : Int32)) L)) fun _ =>
  bn (gd (inR (x3 + (3 : Int32)) L)) fun _ =>
  bn (F_A_hoop (X ((x3 + (1 : Int32))).toNatClampNeg) (X ((x3 + (2 : Int32))).toNatClampNeg) (X ((x3 + (3 : Int32))).toNatClampNeg)) fun v1 =>
  bn (gd (inR (x3 + (1 : Int32)) L)) fun _ =>
  bn (gd (inR (x3 + (2 : Int32)) L)) fun _ =>
  bn (gd (inR (x3 + (3 : Int32)) L)) fun _ =>
  bn (F_R_hoop (X ((x3 + (1 : Int32))).toNatClampNeg) (X ((x3 + (2 : Int32))).toNatClampNeg) (X ((x3 + (3 : Int32))).toNatClampNeg)) fun v2 =>
  (if v1 = v2 then
    K_L_law_1533 L X x3
  else
    bn (gdZ (0 : Int32)) fun _ => rt (.inr (0 : Int32)))
set_option maxRecDepth 4000 in
theorem e_s_L_law_1306 (f_A_act : Int32 → Int32 → Int32 → M Int32) (f_A_alias : Int32 → Int32 → Int32 → M Int32) (f_A_bed : Int32 → Int32 → M Int32) (f_A_beds : Int32 → M Int32) (f_A_birthdays : Int32 → Int32 → Int32 → M Int32) (f_A_book : Int32 → Int32 → M Int32) (f_A_boot : Int32 → M Int32) (f_A_box : Int32 → M Int32) (f_A_end : Int32 → M Int32) (f_A_fault : Int32 → M Int32) (f_A_feed : Int32 → Int32 → Int32 → Int32 → Int32 → M Int32) (f_A_game : Int32 → Int32 → Int32 → M Int32) (f_A_goes : Int32 → Int32 → M Int32) (f_A_hoop : Int32 → Int32 → Int32 → M Int32) (f_A_hours : Int32 → M Int32) (f_A_image : Int32 → M Int32) (f_A_keeps : Int32 → M Int32) (f_A_least : Int32 → M Int32) (f_A_letter : Int32 → Int32 → M Int32) (f_A_loan : Int32 → Int32 → Int32 → M Int32) (f_A_look : Int32 → M Int32) (f_A_named : Int32 → M Int32) (f_A_names : Int32 → M Int32) (f_A_net : Int32 → Int32 → M Int32) (f_A_notes : Int32 → M Int32) (f_A_of : Int32 → Int32 → M Int32) (f_A_pair : Int32 → Int32 → Int32 → M Int32) (f_A_person : Int32 → Int32 → M Int32) (f_A_persons : Int32 → Int32 → M Int32) (f_A_says : Int32 → Int32 → Int32 → M Int32) (f_A_set : Int32 → Int32 → Int32 → M Int32) (f_A_settled : Int32 → M Int32) (f_A_sighted : Int32 → Int32 → M Int32) (f_A_speakers : Int32 → M Int32) (f_A_state : Int32 → M Int32) (f_A_street : Int32 → Int32 → M Int32) (f_A_swings : Int32 → Int32 → M Int32) (f_A_text : Int32 → M Int32) (f_A_undo : M Int32) (f_A_vote : Int32 → M Int32) (f_A_who : Int32 → Int32 → M Int32) (f_R_act : Int32 → Int32 → Int32 → M Int32) (f_R_alias : Int32 → Int32 → Int32 → M Int32) (f_R_bed : Int32 → Int32 → M Int32) (f_R_beds : Int32 → M Int32) (f_R_birthdays : Int32 → Int32 → Int32 → M Int32) (f_R_book : Int32 → Int32 → M Int32) (f_R_boot : Int32 → M Int32) (f_R_box : Int32 → M Int32) (f_R_end : Int32 → M Int32) (f_R_fault : Int32 → M Int32) (f_R_feed : Int32 → Int32 → Int32 → Int32 → Int32 → M Int32) (f_R_game : Int32 → Int32 → Int32 → M Int32) (f_R_goes : Int32 → Int32 → M Int32) (f_R_hoop : Int32 → Int32 → Int32 → M Int32) (f_R_hours : Int32 → M Int32) (f_R_image : Int32 → M Int32) (f_R_keeps : Int32 → M Int32) (f_R_least : Int32 → M Int32) (f_R_letter : Int32 → Int32 → M Int32) (f_R_loan : Int32 → Int32 → Int32 → M Int32) (f_R_look : Int32 → M Int32) (f_R_named : Int32 → M Int32) (f_R_names : Int32 → M Int32) (f_R_net : Int32 → Int32 → M Int32) (f_R_notes : Int32 → M Int32) (f_R_of : Int32 → Int32 → M Int32) (f_R_pair : Int32 → Int32 → Int32 → M Int32) (f_R_person : Int32 → Int32 → M Int32) (f_R_persons : Int32 → Int32 → M Int32) (f_R_says : Int32 → Int32 → Int32 → M Int32) (f_R_set : Int32 → Int32 → Int32 → M Int32) (f_R_settled : Int32 → M Int32) (f_R_sighted : Int32 → Int32 → M Int32) (f_R_speakers : Int32 → M Int32) (f_R_state : Int32 → M Int32) (f_R_street : Int32 → Int32 → M Int32) (f_R_swings : Int32 → Int32 → M Int32) (f_R_text : Int32 → M Int32) (f_R_undo : M Int32) (f_R_vote : Int32 → M Int32) (f_R_who : Int32 → Int32 → M Int32) (k_1533 : Int32 → M ((Int32) ⊕ (Int32))) (x3 : Int32) : wf (β := (Int32) ⊕ (Int32)) L X q_L_law 2 (cs_L_law f_A_act f_A_alias f_A_bed f_A_beds f_A_birthdays f_A_book f_A_boot f_A_box f_A_end f_A_fault f_A_feed f_A_game f_A_goes f_A_hoop f_A_hours f_A_image f_A_keeps f_A_least f_A_letter f_A_loan f_A_look f_A_named f_A_names f_A_net f_A_notes f_A_of f_A_pair f_A_person f_A_persons f_A_says f_A_set f_A_settled f_A_sighted f_A_speakers f_A_state f_A_street f_A_swings f_A_text f_A_undo f_A_vote f_A_who f_R_act f_R_alias f_R_bed f_R_beds f_R_birthdays f_R_book f_R_boot f_R_box f_R_end f_R_fault f_R_feed f_R_game f_R_goes f_R_hoop f_R_hours f_R_image f_R_keeps f_R_least f_R_letter f_R_loan f_R_look f_R_named f_R_names f_R_net f_R_notes f_R_of f_R_pair f_R_person f_R_persons f_R_says f_R_set f_R_settled f_R_sighted f_R_speakers f_R_state f_R_street f_R_swings f_R_text f_R_undo f_R_vote f_R_who) [] [18, 212, 235, 268, 311, 354, 397, 420, 483, 506, 529, 552, 585, 618, 651, 684, 717, 740, 773, 806, 865, 888, 947, 970, 993, 1026, 1049, 1092, 1125, 1148, 1171, 1204, 1227, 1250, 1273, 1306, 1349, 1392, 1415, 1458, 1471, 1510, 1533] (fun pc ls st => mC (Nat.beq pc 1533) (mN st <| k_1533 x3) (fl)) (fun v => match v with | some (_, .int x) => rt (.inr x) | _ => fl) 1072 1306 [(9997, .ref 1000000), (111, .ref 0), (112, .ref 207), (0, .int x3)] [] = (bn (gd (inR (x3 + (1 : Int32)) L)) fun _ =>
  bn (gd (inR (x3 + (2 : Int32)) L)) fun _ =>
  bn (gd (inR (x3 + (3 : Int32)) L)) fun _ =>
  bn (f_A_hoop (X ((x3 + (1 : Int32))).toNatClampNeg) (X ((x3 + (2 : Int32))).toNatClampNeg) (X ((x3 + (3 : Int32))).toNatClampNeg)) fun v1 =>
  bn (gd (inR (x3 + (1 : Int32)) L)) fun _ =>
  bn (gd (inR (x3 + (2 : Int32)) L)) fun _ =>
  bn (gd (inR (x3 + (3 : Int32)) L)) fun _ =>
  bn (f_R_hoop (X ((x3 + (1 : Int32))).toNatClampNeg) (X ((x3 + (2 : Int32))).toNatClampNeg) (X ((x3 + (3 : Int32))).toNatClampNeg)) fun v2 =>
  (if v1 = v2 then
    k_1533 x3
  else
    bn (gdZ (0 : Int32)) fun _ => rt (.inr (0 : Int32)))) := rfl
theorem s_L_law_1306 {d : Nat} (L : Nat) (X : Nat → Int32) (hcs : AllS L X d (cs_L_law F_A_act F_A_alias F_A_bed F_A_beds F_A_birthdays F_A_book F_A_boot F_A_box F_A_end F_A_fault F_A_feed F_A_game F_A_goes F_A_hoop F_A_hours F_A_image F_A_keeps F_A_least F_A_letter F_A_loan F_A_look F_A_named F_A_names F_A_net F_A_notes F_A_of F_A_pair F_A_person F_A_persons F_A_says F_A_set F_A_settled F_A_sighted F_A_speakers F_A_state F_A_street F_A_swings F_A_text F_A_undo F_A_vote F_A_who F_R_act F_R_alias F_R_bed F_R_beds F_R_birthdays F_R_book F_R_boot F_R_box F_R_end F_R_fault F_R_feed F_R_game F_R_goes F_R_hoop F_R_hours F_R_image F_R_keeps F_R_least F_R_letter F_R_loan F_R_look F_R_named F_R_names F_R_net F_R_notes F_R_of F_R_pair F_R_person F_R_persons F_R_says F_R_set F_R_settled F_R_sighted F_R_speakers F_R_state F_R_street F_R_swings F_R_text F_R_undo F_R_vote F_R_who)) (x3 : Int32) {o : Option Value × PH} {Q : ((Int32) ⊕ (Int32)) → MI → Prop} (qb : ∀ y I, Q (.inl y) I → At L X (d + 1) 331 18 [(9997, .ref 1000000), (111, .ref 0), (112, .ref 207), (0, .int y)] [] I o) (qr : ∀ v I, Q (.inr v) I → o = (some (.int v), HH I)) (I : MI) (r : (Int32) ⊕ (Int32)) (I1 : MI) (h : K_L_law_1306 L X x3 I = some (r, I1)) (hq : Q r I1) : At L X (d + 1) 331 1306 [(9997, .ref 1000000), (111, .ref 0), (112, .ref 207), (0, .int x3)] [] I o := by
  refine wf_ok z_L_law hcs ?_ ?_ _ _ _ _ _ ⟨rfl, rfl, rfl, trivial, trivial⟩ trivial (unm_refl _ _) ((congrFun (e_s_L_law_1306 (L := L) (X := X) F_A_act F_A_alias F_A_bed F_A_beds F_A_birthdays F_A_book F_A_boot F_A_box F_A_end F_A_fault F_A_feed F_A_game F_A_goes F_A_hoop F_A_hours F_A_image F_A_keeps F_A_least F_A_letter F_A_loan F_A_look F_A_named F_A_names F_A_net F_A_notes F_A_of F_A_pair F_A_person F_A_persons F_A_says F_A_set F_A_settled F_A_sighted F_A_speakers F_A_state F_A_street F_A_swings F_A_text F_A_undo F_A_vote F_A_who F_R_act F_R_alias F_R_bed F_R_beds F_R_birthdays F_R_book F_R_boot F_R_box F_R_end F_R_fault F_R_feed F_R_game F_R_goes F_R_hoop F_R_hours F_R_image F_R_keeps F_R_least F_R_letter F_R_loan F_R_look F_R_named F_R_names F_R_net F_R_notes F_R_of F_R_pair F_R_person F_R_persons F_R_says F_R_set F_R_settled F_R_sighted F_R_speakers F_R_state F_R_street F_R_swings F_R_text F_R_undo F_R_vote F_R_who (K_L_law_1533 L X) x3) I).trans h)
  · intro pc ls st I2 h1 h2 h3 h
    rcases mC_ok h with ⟨hb, h⟩ | ⟨_, h⟩
    · have e := Nat.eq_of_beq_eq_true hb
      subst e
      obtain ⟨hst, h⟩ := mN_ok h
      subst hst
      refine at_leaf (ls2 := [(9997, .ref 1000000), (111, .ref 0), (112, .ref 207), (0, .int x3)]) h3.1 ⟨Or.inr ⟨_, (h3.2 0 rfl).trans rfl⟩, Or.inr ⟨_, (h3.2 1 rfl).trans rfl⟩, Or.inr ⟨_, (h3.2 2 rfl).trans rfl⟩, Or.inr ⟨_, (h3.2 3 rfl).trans rfl⟩, trivial⟩ ?_
      exact s_L_law_1533 L X hcs x3 qb qr _ _ _ h hq
    cases h
  · intro v I2 _ h
    split at h
    · cases h; exact qr _ _ hq
    · cases h
def K_L_law_1349 (L : Nat) (X : Nat → Int32) (x3 : Int32) : M ((Int32) ⊕ (Int32)) :=
  bn (gd (inR (x3 + (1 : Int32)) L)) fun _ =>
  bn (gd (inR (x3 + (2 : Int32)) L)) fun _ =>
  bn (gd (inR (x3 + (3 : Int32)) L)) fun _ =>
  bn (F_A_loan (X ((x3 + (1 : Int32))).toNatClampNeg) (X ((x3 + (2 : Int32))).toNatClampNeg) (X ((x3 + (3 : Int32))).toNatClampNeg)) fun v1 =>
  bn (gd (inR (x3 + (1 : Int32)) L)) fun _ =>
  bn (gd (inR (x3 + (2 : Int32)) L)) fun _ =>
  bn (gd (inR (x3 + (3 : Int32)) L)) fun _ =>
  bn (F_R_loan (X ((x3 + (1 : Int32))).toNatClampNeg) (X ((x3 + (2 : Int32))).toNatClampNeg) (X ((x3 + (3 : Int32))).toNatClampNeg)) fun v2 =>
  (if v1 = v2 then
    K_L_law_1533 L X x3
  else
    bn (gdZ (0 : Int32)) fun _ => rt (.inr (0 : Int32)))
set_option maxRecDepth 4000 in
theorem e_s_L_law_1349 (f_A_act : Int32 → Int32 → Int32 → M Int32) (f_A_alias : Int32 → Int32 → Int32 → M Int32) (f_A_bed : Int32 → Int32 → M Int32) (f_A_beds : Int32 → M Int32) (f_A_birthdays : Int32 → Int32 → Int32 → M Int32) (f_A_book : Int32 → Int32 → M Int32) (f_A_boot : Int32 → M Int32) (f_A_box : Int32 → M Int32) (f_A_end : Int32 → M Int32) (f_A_fault : Int32 → M Int32) (f_A_feed : Int32 → Int32 → Int32 → Int32 → Int32 → M Int32) (f_A_game : Int32 → Int32 → Int32 → M Int32) (f_A_goes : Int32 → Int32 → M Int32) (f_A_hoop : Int32 → Int32 → Int32 → M Int32) (f_A_hours : Int32 → M Int32) (f_A_image : Int32 → M Int32) (f_A_keeps : Int32 → M Int32) (f_A_least : Int32 → M Int32) (f_A_letter : Int32 → Int32 → M Int32) (f_A_loan : Int32 → Int32 → Int32 → M Int32) (f_A_look : Int32 → M Int32) (f_A_named : Int32 → M Int32) (f_A_names : Int32 → M Int32) (f_A_net : Int32 → Int32 → M Int32) (f_A_notes : Int32 → M Int32) (f_A_of : Int32 → Int32 → M Int32) (f_A_pair : Int32 → Int32 → Int32 → M Int32) (f_A_person : Int32 → Int32 → M Int32) (f_A_persons : Int32 → Int32 → M Int32) (f_A_says : Int32 → Int32 → Int32 → M Int32) (f_A_set : Int32 → Int32 → Int32 → M Int32) (f_A_settled : Int32 → M Int32) (f_A_sighted : Int32 → Int32 → M Int32) (f_A_speakers : Int32 → M Int32) (f_A_state : Int32 → M Int32) (f_A_street : Int32 → Int32 → M Int32) (f_A_swings : Int32 → Int32 → M Int32) (f_A_text : Int32 → M Int32) (f_A_undo : M Int32) (f_A_vote : Int32 → M Int32) (f_A_who : Int32 → Int32 → M Int32) (f_R_act : Int32 → Int32 → Int32 → M Int32) (f_R_alias : Int32 → Int32 → Int32 → M Int32) (f_R_bed : Int32 → Int32 → M Int32) (f_R_beds : Int32 → M Int32) (f_R_birthdays : Int32 → Int32 → Int32 → M Int32) (f_R_book : Int32 → Int32 → M Int32) (f_R_boot : Int32 → M Int32) (f_R_box : Int32 → M Int32) (f_R_end : Int32 → M Int32) (f_R_fault : Int32 → M Int32) (f_R_feed : Int32 → Int32 → Int32 → Int32 → Int32 → M Int32) (f_R_game : Int32 → Int32 → Int32 → M Int32) (f_R_goes : Int32 → Int32 → M Int32) (f_R_hoop : Int32 → Int32 → Int32 → M Int32) (f_R_hours : Int32 → M Int32) (f_R_image : Int32 → M Int32) (f_R_keeps : Int32 → M Int32) (f_R_least : Int32 → M Int32) (f_R_letter : Int32 → Int32 → M Int32) (f_R_loan : Int32 → Int32 → Int32 → M Int32) (f_R_look : Int32 → M Int32) (f_R_named : Int32 → M Int32) (f_R_names : Int32 → M Int32) (f_R_net : Int32 → Int32 → M Int32) (f_R_notes : Int32 → M Int32) (f_R_of : Int32 → Int32 → M Int32) (f_R_pair : Int32 → Int32 → Int32 → M Int32) (f_R_person : Int32 → Int32 → M Int32) (f_R_persons : Int32 → Int32 → M Int32) (f_R_says : Int32 → Int32 → Int32 → M Int32) (f_R_set : Int32 → Int32 → Int32 → M Int32) (f_R_settled : Int32 → M Int32) (f_R_sighted : Int32 → Int32 → M Int32) (f_R_speakers : Int32 → M Int32) (f_R_state : Int32 → M Int32) (f_R_street : Int32 → Int32 → M Int32) (f_R_swings : Int32 → Int32 → M Int32) (f_R_text : Int32 → M Int32) (f_R_undo : M Int32) (f_R_vote : Int32 → M Int32) (f_R_who : Int32 → Int32 → M Int32) (k_1533 : Int32 → M ((Int32) ⊕ (Int32))) (x3 : Int32) : wf (β := (Int32) ⊕ (Int32)) L X q_L_law 2 (cs_L_law f_A_act f_A_alias f_A_bed f_A_beds f_A_birthdays f_A_book f_A_boot f_A_box f_A_end f_A_fault f_A_feed f_A_game f_A_goes f_A_hoop f_A_hours f_A_image f_A_keeps f_A_least f_A_letter f_A_loan f_A_look f_A_named f_A_names f_A_net f_A_notes f_A_of f_A_pair f_A_person f_A_persons f_A_says f_A_set f_A_settled f_A_sighted f_A_speakers f_A_state f_A_street f_A_swings f_A_text f_A_undo f_A_vote f_A_who f_R_act f_R_alias f_R_bed f_R_beds f_R_birthdays f_R_book f_R_boot f_R_box f_R_end f_R_fault f_R_feed f_R_game f_R_goes f_R_hoop f_R_hours f_R_image f_R_keeps f_R_least f_R_letter f_R_loan f_R_look f_R_named f_R_names f_R_net f_R_notes f_R_of f_R_pair f_R_person f_R_persons f_R_says f_R_set f_R_settled f_R_sighted f_R_speakers f_R_state f_R_street f_R_swings f_R_text f_R_undo f_R_vote f_R_who) [] [18, 212, 235, 268, 311, 354, 397, 420, 483, 506, 529, 552, 585, 618, 651, 684, 717, 740, 773, 806, 865, 888, 947, 970, 993, 1026, 1049, 1092, 1125, 1148, 1171, 1204, 1227, 1250, 1273, 1306, 1349, 1392, 1415, 1458, 1471, 1510, 1533] (fun pc ls st => mC (Nat.beq pc 1533) (mN st <| k_1533 x3) (fl)) (fun v => match v with | some (_, .int x) => rt (.inr x) | _ => fl) 1072 1349 [(9997, .ref 1000000), (111, .ref 0), (112, .ref 207), (0, .int x3)] [] = (bn (gd (inR (x3 + (1 : Int32)) L)) fun _ =>
  bn (gd (inR (x3 + (2 : Int32)) L)) fun _ =>
  bn (gd (inR (x3 + (3 : Int32)) L)) fun _ =>
  bn (f_A_loan (X ((x3 + (1 : Int32))).toNatClampNeg) (X ((x3 + (2 : Int32))).toNatClampNeg) (X ((x3 + (3 : Int32))).toNatClampNeg)) fun v1 =>
  bn (gd (inR (x3 + (1 : Int32)) L)) fun _ =>
  bn (gd (inR (x3 + (2 : Int32)) L)) fun _ =>
  bn (gd (inR (x3 + (3 : Int32)) L)) fun _ =>
  bn (f_R_loan (X ((x3 + (1 : Int32))).toNatClampNeg) (X ((x3 + (2 : Int32))).toNatClampNeg) (X ((x3 + (3 : Int32))).toNatClampNeg)) fun v2 =>
  (if v1 = v2 then
    k_1533 x3
  else
    bn (gdZ (0 : Int32)) fun _ => rt (.inr (0 : Int32)))) := rfl
theorem s_L_law_1349 {d : Nat} (L : Nat) (X : Nat → Int32) (hcs : AllS L X d (cs_L_law F_A_act F_A_alias F_A_bed F_A_beds F_A_birthdays F_A_book F_A_boot F_A_box F_A_end F_A_fault F_A_feed F_A_game F_A_goes F_A_hoop F_A_hours F_A_image F_A_keeps F_A_least F_A_letter F_A_loan F_A_look F_A_named F_A_names F_A_net F_A_notes F_A_of F_A_pair F_A_person F_A_persons F_A_says F_A_set F_A_settled F_A_sighted F_A_speakers F_A_state F_A_street F_A_swings F_A_text F_A_undo F_A_vote F_A_who F_R_act F_R_alias F_R_bed F_R_beds F_R_birthdays F_R_book F_R_boot F_R_box F_R_end F_R_fault F_R_feed F_R_game F_R_goes F_R_hoop F_R_hours F_R_image F_R_keeps F_R_least F_R_letter F_R_loan F_R_look F_R_named F_R_names F_R_net F_R_notes F_R_of F_R_pair F_R_person F_R_persons F_R_says F_R_set F_R_settled F_R_sighted F_R_speakers F_R_state F_R_street F_R_swings F_R_text F_R_undo F_R_vote F_R_who)) (x3 : Int32) {o : Option Value × PH} {Q : ((Int32) ⊕ (Int32)) → MI → Prop} (qb : ∀ y I, Q (.inl y) I → At L X (d + 1) 331 18 [(9997, .ref 1000000), (111, .ref 0), (112, .ref 207), (0, .int y)] [] I o) (qr : ∀ v I, Q (.inr v) I → o = (some (.int v), HH I)) (I : MI) (r : (Int32) ⊕ (Int32)) (I1 : MI) (h : K_L_law_1349 L X x3 I = some (r, I1)) (hq : Q r I1) : At L X (d + 1) 331 1349 [(9997, .ref 1000000), (111, .ref 0), (112, .ref 207), (0, .int x3)] [] I o := by
  refine wf_ok z_L_law hcs ?_ ?_ _ _ _ _ _ ⟨rfl, rfl, rfl, trivial, trivial⟩ trivial (unm_refl _ _) ((congrFun (e_s_L_law_1349 (L := L) (X := X) F_A_act F_A_alias F_A_bed F_A_beds F_A_birthdays F_A_book F_A_boot F_A_box F_A_end F_A_fault F_A_feed F_A_game F_A_goes F_A_hoop F_A_hours F_A_image F_A_keeps F_A_least F_A_letter F_A_loan F_A_look F_A_named F_A_names F_A_net F_A_notes F_A_of F_A_pair F_A_person F_A_persons F_A_says F_A_set F_A_settled F_A_sighted F_A_speakers F_A_state F_A_street F_A_swings F_A_text F_A_undo F_A_vote F_A_who F_R_act F_R_alias F_R_bed F_R_beds F_R_birthdays F_R_book F_R_boot F_R_box F_R_end F_R_fault F_R_feed F_R_game F_R_goes F_R_hoop F_R_hours F_R_image F_R_keeps F_R_least F_R_letter F_R_loan F_R_look F_R_named F_R_names F_R_net F_R_notes F_R_of F_R_pair F_R_person F_R_persons F_R_says F_R_set F_R_settled F_R_sighted F_R_speakers F_R_state F_R_street F_R_swings F_R_text F_R_undo F_R_vote F_R_who (K_L_law_1533 L X) x3) I).trans h)
  · intro pc ls st I2 h1 h2 h3 h
    rcases mC_ok h with ⟨hb, h⟩ | ⟨_, h⟩
    · have e := Nat.eq_of_beq_eq_true hb
      subst e
      obtain ⟨hst, h⟩ := mN_ok h
      subst hst
      refine at_leaf (ls2 := [(9997, .ref 1000000), (111, .ref 0), (112, .ref 207), (0, .int x3)]) h3.1 ⟨Or.inr ⟨_, (h3.2 0 rfl).trans rfl⟩, Or.inr ⟨_, (h3.2 1 rfl).trans rfl⟩, Or.inr ⟨_, (h3.2 2 rfl).trans rfl⟩, Or.inr ⟨_, (h3.2 3 rfl).trans rfl⟩, trivial⟩ ?_
      exact s_L_law_1533 L X hcs x3 qb qr _ _ _ h hq
    cases h
  · intro v I2 _ h
    split at h
    · cases h; exact qr _ _ hq
    · cases h
def K_L_law_1392 (L : Nat) (X : Nat → Int32) (x3 : Int32) : M ((Int32) ⊕ (Int32)) :=
  bn (gd (inR (x3 + (1 : Int32)) L)) fun _ =>
  bn (F_A_settled (X ((x3 + (1 : Int32))).toNatClampNeg)) fun v1 =>
  bn (gd (inR (x3 + (1 : Int32)) L)) fun _ =>
  bn (F_R_settled (X ((x3 + (1 : Int32))).toNatClampNeg)) fun v2 =>
  (if v1 = v2 then
    K_L_law_1533 L X x3
  else
    bn (gdZ (0 : Int32)) fun _ => rt (.inr (0 : Int32)))
set_option maxRecDepth 4000 in
theorem e_s_L_law_1392 (f_A_act : Int32 → Int32 → Int32 → M Int32) (f_A_alias : Int32 → Int32 → Int32 → M Int32) (f_A_bed : Int32 → Int32 → M Int32) (f_A_beds : Int32 → M Int32) (f_A_birthdays : Int32 → Int32 → Int32 → M Int32) (f_A_book : Int32 → Int32 → M Int32) (f_A_boot : Int32 → M Int32) (f_A_box : Int32 → M Int32) (f_A_end : Int32 → M Int32) (f_A_fault : Int32 → M Int32) (f_A_feed : Int32 → Int32 → Int32 → Int32 → Int32 → M Int32) (f_A_game : Int32 → Int32 → Int32 → M Int32) (f_A_goes : Int32 → Int32 → M Int32) (f_A_hoop : Int32 → Int32 → Int32 → M Int32) (f_A_hours : Int32 → M Int32) (f_A_image : Int32 → M Int32) (f_A_keeps : Int32 → M Int32) (f_A_least : Int32 → M Int32) (f_A_letter : Int32 → Int32 → M Int32) (f_A_loan : Int32 → Int32 → Int32 → M Int32) (f_A_look : Int32 → M Int32) (f_A_named : Int32 → M Int32) (f_A_names : Int32 → M Int32) (f_A_net : Int32 → Int32 → M Int32) (f_A_notes : Int32 → M Int32) (f_A_of : Int32 → Int32 → M Int32) (f_A_pair : Int32 → Int32 → Int32 → M Int32) (f_A_person : Int32 → Int32 → M Int32) (f_A_persons : Int32 → Int32 → M Int32) (f_A_says : Int32 → Int32 → Int32 → M Int32) (f_A_set : Int32 → Int32 → Int32 → M Int32) (f_A_settled : Int32 → M Int32) (f_A_sighted : Int32 → Int32 → M Int32) (f_A_speakers : Int32 → M Int32) (f_A_state : Int32 → M Int32) (f_A_street : Int32 → Int32 → M Int32) (f_A_swings : Int32 → Int32 → M Int32) (f_A_text : Int32 → M Int32) (f_A_undo : M Int32) (f_A_vote : Int32 → M Int32) (f_A_who : Int32 → Int32 → M Int32) (f_R_act : Int32 → Int32 → Int32 → M Int32) (f_R_alias : Int32 → Int32 → Int32 → M Int32) (f_R_bed : Int32 → Int32 → M Int32) (f_R_beds : Int32 → M Int32) (f_R_birthdays : Int32 → Int32 → Int32 → M Int32) (f_R_book : Int32 → Int32 → M Int32) (f_R_boot : Int32 → M Int32) (f_R_box : Int32 → M Int32) (f_R_end : Int32 → M Int32) (f_R_fault : Int32 → M Int32) (f_R_feed : Int32 → Int32 → Int32 → Int32 → Int32 → M Int32) (f_R_game : Int32 → Int32 → Int32 → M Int32) (f_R_goes : Int32 → Int32 → M Int32) (f_R_hoop : Int32 → Int32 → Int32 → M Int32) (f_R_hours : Int32 → M Int32) (f_R_image : Int32 → M Int32) (f_R_keeps : Int32 → M Int32) (f_R_least : Int32 → M Int32) (f_R_letter : Int32 → Int32 → M Int32) (f_R_loan : Int32 → Int32 → Int32 → M Int32) (f_R_look : Int32 → M Int32) (f_R_named : Int32 → M Int32) (f_R_names : Int32 → M Int32) (f_R_net : Int32 → Int32 → M Int32) (f_R_notes : Int32 → M Int32) (f_R_of : Int32 → Int32 → M Int32) (f_R_pair : Int32 → Int32 → Int32 → M Int32) (f_R_person : Int32 → Int32 → M Int32) (f_R_persons : Int32 → Int32 → M Int32) (f_R_says : Int32 → Int32 → Int32 → M Int32) (f_R_set : Int32 → Int32 → Int32 → M Int32) (f_R_settled : Int32 → M Int32) (f_R_sighted : Int32 → Int32 → M Int32) (f_R_speakers : Int32 → M Int32) (f_R_state : Int32 → M Int32) (f_R_street : Int32 → Int32 → M Int32) (f_R_swings : Int32 → Int32 → M Int32) (f_R_text : Int32 → M Int32) (f_R_undo : M Int32) (f_R_vote : Int32 → M Int32) (f_R_who : Int32 → Int32 → M Int32) (k_1533 : Int32 → M ((Int32) ⊕ (Int32))) (x3 : Int32) : wf (β := (Int32) ⊕ (Int32)) L X q_L_law 2 (cs_L_law f_A_act f_A_alias f_A_bed f_A_beds f_A_birthdays f_A_book f_A_boot f_A_box f_A_end f_A_fault f_A_feed f_A_game f_A_goes f_A_hoop f_A_hours f_A_image f_A_keeps f_A_least f_A_letter f_A_loan f_A_look f_A_named f_A_names f_A_net f_A_notes f_A_of f_A_pair f_A_person f_A_persons f_A_says f_A_set f_A_settled f_A_sighted f_A_speakers f_A_state f_A_street f_A_swings f_A_text f_A_undo f_A_vote f_A_who f_R_act f_R_alias f_R_bed f_R_beds f_R_birthdays f_R_book f_R_boot f_R_box f_R_end f_R_fault f_R_feed f_R_game f_R_goes f_R_hoop f_R_hours f_R_image f_R_keeps f_R_least f_R_letter f_R_loan f_R_look f_R_named f_R_names f_R_net f_R_notes f_R_of f_R_pair f_R_person f_R_persons f_R_says f_R_set f_R_settled f_R_sighted f_R_speakers f_R_state f_R_street f_R_swings f_R_text f_R_undo f_R_vote f_R_who) [] [18, 212, 235, 268, 311, 354, 397, 420, 483, 506, 529, 552, 585, 618, 651, 684, 717, 740, 773, 806, 865, 888, 947, 970, 993, 1026, 1049, 1092, 1125, 1148, 1171, 1204, 1227, 1250, 1273, 1306, 1349, 1392, 1415, 1458, 1471, 1510, 1533] (fun pc ls st => mC (Nat.beq pc 1533) (mN st <| k_1533 x3) (fl)) (fun v => match v with | some (_, .int x) => rt (.inr x) | _ => fl) 1072 1392 [(9997, .ref 1000000), (111, .ref 0), (112, .ref 207), (0, .int x3)] [] = (bn (gd (inR (x3 + (1 : Int32)) L)) fun _ =>
  bn (f_A_settled (X ((x3 + (1 : Int32))).toNatClampNeg)) fun v1 =>
  bn (gd (inR (x3 + (1 : Int32)) L)) fun _ =>
  bn (f_R_settled (X ((x3 + (1 : Int32))).toNatClampNeg)) fun v2 =>
  (if v1 = v2 then
    k_1533 x3
  else
    bn (gdZ (0 : Int32)) fun _ => rt (.inr (0 : Int32)))) := rfl
theorem s_L_law_1392 {d : Nat} (L : Nat) (X : Nat → Int32) (hcs : AllS L X d (cs_L_law F_A_act F_A_alias F_A_bed F_A_beds F_A_birthdays F_A_book F_A_boot F_A_box F_A_end F_A_fault F_A_feed F_A_game F_A_goes F_A_hoop F_A_hours F_A_image F_A_keeps F_A_least F_A_letter F_A_loan F_A_look F_A_named F_A_names F_A_net F_A_notes F_A_of F_A_pair F_A_person F_A_persons F_A_says F_A_set F_A_settled F_A_sighted F_A_speakers F_A_state F_A_street F_A_swings F_A_text F_A_undo F_A_vote F_A_who F_R_act F_R_alias F_R_bed F_R_beds F_R_birthdays F_R_book F_R_boot F_R_box F_R_end F_R_fault F_R_feed F_R_game F_R_goes F_R_hoop F_R_hours F_R_image F_R_keeps F_R_least F_R_letter F_R_loan F_R_look F_R_named F_R_names F_R_net F_R_notes F_R_of F_R_pair F_R_person F_R_persons F_R_says F_R_set F_R_settled F_R_sighted F_R_speakers F_R_state F_R_street F_R_swings F_R_text F_R_undo F_R_vote F_R_who)) (x3 : Int32) {o : Option Value × PH} {Q : ((Int32) ⊕ (Int32)) → MI → Prop} (qb : ∀ y I, Q (.inl y) I → At L X (d + 1) 331 18 [(9997, .ref 1000000), (111, .ref 0), (112, .ref 207), (0, .int y)] [] I o) (qr : ∀ v I, Q (.inr v) I → o = (some (.int v), HH I)) (I : MI) (r : (Int32) ⊕ (Int32)) (I1 : MI) (h : K_L_law_1392 L X x3 I = some (r, I1)) (hq : Q r I1) : At L X (d + 1) 331 1392 [(9997, .ref 1000000), (111, .ref 0), (112, .ref 207), (0, .int x3)] [] I o := by
  refine wf_ok z_L_law hcs ?_ ?_ _ _ _ _ _ ⟨rfl, rfl, rfl, trivial, trivial⟩ trivial (unm_refl _ _) ((congrFun (e_s_L_law_1392 (L := L) (X := X) F_A_act F_A_alias F_A_bed F_A_beds F_A_birthdays F_A_book F_A_boot F_A_box F_A_end F_A_fault F_A_feed F_A_game F_A_goes F_A_hoop F_A_hours F_A_image F_A_keeps F_A_least F_A_letter F_A_loan F_A_look F_A_named F_A_names F_A_net F_A_notes F_A_of F_A_pair F_A_person F_A_persons F_A_says F_A_set F_A_settled F_A_sighted F_A_speakers F_A_state F_A_street F_A_swings F_A_text F_A_undo F_A_vote F_A_who F_R_act F_R_alias F_R_bed F_R_beds F_R_birthdays F_R_book F_R_boot F_R_box F_R_end F_R_fault F_R_feed F_R_game F_R_goes F_R_hoop F_R_hours F_R_image F_R_keeps F_R_least F_R_letter F_R_loan F_R_look F_R_named F_R_names F_R_net F_R_notes F_R_of F_R_pair F_R_person F_R_persons F_R_says F_R_set F_R_settled F_R_sighted F_R_speakers F_R_state F_R_street F_R_swings F_R_text F_R_undo F_R_vote F_R_who (K_L_law_1533 L X) x3) I).trans h)
  · intro pc ls st I2 h1 h2 h3 h
    rcases mC_ok h with ⟨hb, h⟩ | ⟨_, h⟩
    · have e := Nat.eq_of_beq_eq_true hb
      subst e
      obtain ⟨hst, h⟩ := mN_ok h
      subst hst
      refine at_leaf (ls2 := [(9997, .ref 1000000), (111, .ref 0), (112, .ref 207), (0, .int x3)]) h3.1 ⟨Or.inr ⟨_, (h3.2 0 rfl).trans rfl⟩, Or.inr ⟨_, (h3.2 1 rfl).trans rfl⟩, Or.inr ⟨_, (h3.2 2 rfl).trans rfl⟩, Or.inr ⟨_, (h3.2 3 rfl).trans rfl⟩, trivial⟩ ?_
      exact s_L_law_1533 L X hcs x3 qb qr _ _ _ h hq
    cases h
  · intro v I2 _ h
    split at h
    · cases h; exact qr _ _ hq
    · cases h
def K_L_law_1415 (L : Nat) (X : Nat → Int32) (x3 : Int32) : M ((Int32) ⊕ (Int32)) :=
  bn (gd (inR (x3 + (1 : Int32)) L)) fun _ =>
  bn (gd (inR (x3 + (2 : Int32)) L)) fun _ =>
  bn (gd (inR (x3 + (3 : Int32)) L)) fun _ =>
  bn (F_A_game (X ((x3 + (1 : Int32))).toNatClampNeg) (X ((x3 + (2 : Int32))).toNatClampNeg) (X ((x3 + (3 : Int32))).toNatClampNeg)) fun v1 =>
  bn (gd (inR (x3 + (1 : Int32)) L)) fun _ =>
  bn (gd (inR (x3 + (2 : Int32)) L)) fun _ =>
  bn (gd (inR (x3 + (3 : Int32)) L)) fun _ =>
  bn (F_R_game (X ((x3 + (1 : Int32))).toNatClampNeg) (X ((x3 + (2 : Int32))).toNatClampNeg) (X ((x3 + (3 : Int32))).toNatClampNeg)) fun v2 =>
  (if v1 = v2 then
    K_L_law_1533 L X x3
  else
    bn (gdZ (0 : Int32)) fun _ => rt (.inr (0 : Int32)))
set_option maxRecDepth 4000 in
theorem e_s_L_law_1415 (f_A_act : Int32 → Int32 → Int32 → M Int32) (f_A_alias : Int32 → Int32 → Int32 → M Int32) (f_A_bed : Int32 → Int32 → M Int32) (f_A_beds : Int32 → M Int32) (f_A_birthdays : Int32 → Int32 → Int32 → M Int32) (f_A_book : Int32 → Int32 → M Int32) (f_A_boot : Int32 → M Int32) (f_A_box : Int32 → M Int32) (f_A_end : Int32 → M Int32) (f_A_fault : Int32 → M Int32) (f_A_feed : Int32 → Int32 → Int32 → Int32 → Int32 → M Int32) (f_A_game : Int32 → Int32 → Int32 → M Int32) (f_A_goes : Int32 → Int32 → M Int32) (f_A_hoop : Int32 → Int32 → Int32 → M Int32) (f_A_hours : Int32 → M Int32) (f_A_image : Int32 → M Int32) (f_A_keeps : Int32 → M Int32) (f_A_least : Int32 → M Int32) (f_A_letter : Int32 → Int32 → M Int32) (f_A_loan : Int32 → Int32 → Int32 → M Int32) (f_A_look : Int32 → M Int32) (f_A_named : Int32 → M Int32) (f_A_names : Int32 → M Int32) (f_A_net : Int32 → Int32 → M Int32) (f_A_notes : Int32 → M Int32) (f_A_of : Int32 → Int32 → M Int32) (f_A_pair : Int32 → Int32 → Int32 → M Int32) (f_A_person : Int32 → Int32 → M Int32) (f_A_persons : Int32 → Int32 → M Int32) (f_A_says : Int32 → Int32 → Int32 → M Int32) (f_A_set : Int32 → Int32 → Int32 → M Int32) (f_A_settled : Int32 → M Int32) (f_A_sighted : Int32 → Int32 → M Int32) (f_A_speakers : Int32 → M Int32) (f_A_state : Int32 → M Int32) (f_A_street : Int32 → Int32 → M Int32) (f_A_swings : Int32 → Int32 → M Int32) (f_A_text : Int32 → M Int32) (f_A_undo : M Int32) (f_A_vote : Int32 → M Int32) (f_A_who : Int32 → Int32 → M Int32) (f_R_act : Int32 → Int32 → Int32 → M Int32) (f_R_alias : Int32 → Int32 → Int32 → M Int32) (f_R_bed : Int32 → Int32 → M Int32) (f_R_beds : Int32 → M Int32) (f_R_birthdays : Int32 → Int32 → Int32 → M Int32) (f_R_book : Int32 → Int32 → M Int32) (f_R_boot : Int32 → M Int32) (f_R_box : Int32 → M Int32) (f_R_end : Int32 → M Int32) (f_R_fault : Int32 → M Int32) (f_R_feed : Int32 → Int32 → Int32 → Int32 → Int32 → M Int32) (f_R_game : Int32 → Int32 → Int32 → M Int32) (f_R_goes : Int32 → Int32 → M Int32) (f_R_hoop : Int32 → Int32 → Int32 → M Int32) (f_R_hours : Int32 → M Int32) (f_R_image : Int32 → M Int32) (f_R_keeps : Int32 → M Int32) (f_R_least : Int32 → M Int32) (f_R_letter : Int32 → Int32 → M Int32) (f_R_loan : Int32 → Int32 → Int32 → M Int32) (f_R_look : Int32 → M Int32) (f_R_named : Int32 → M Int32) (f_R_names : Int32 → M Int32) (f_R_net : Int32 → Int32 → M Int32) (f_R_notes : Int32 → M Int32) (f_R_of : Int32 → Int32 → M Int32) (f_R_pair : Int32 → Int32 → Int32 → M Int32) (f_R_person : Int32 → Int32 → M Int32) (f_R_persons : Int32 → Int32 → M Int32) (f_R_says : Int32 → Int32 → Int32 → M Int32) (f_R_set : Int32 → Int32 → Int32 → M Int32) (f_R_settled : Int32 → M Int32) (f_R_sighted : Int32 → Int32 → M Int32) (f_R_speakers : Int32 → M Int32) (f_R_state : Int32 → M Int32) (f_R_street : Int32 → Int32 → M Int32) (f_R_swings : Int32 → Int32 → M Int32) (f_R_text : Int32 → M Int32) (f_R_undo : M Int32) (f_R_vote : Int32 → M Int32) (f_R_who : Int32 → Int32 → M Int32) (k_1533 : Int32 → M ((Int32) ⊕ (Int32))) (x3 : Int32) : wf (β := (Int32) ⊕ (Int32)) L X q_L_law 2 (cs_L_law f_A_act f_A_alias f_A_bed f_A_beds f_A_birthdays f_A_book f_A_boot f_A_box f_A_end f_A_fault f_A_feed f_A_game f_A_goes f_A_hoop f_A_hours f_A_image f_A_keeps f_A_least f_A_letter f_A_loan f_A_look f_A_named f_A_names f_A_net f_A_notes f_A_of f_A_pair f_A_person f_A_persons f_A_says f_A_set f_A_settled f_A_sighted f_A_speakers f_A_state f_A_street f_A_swings f_A_text f_A_undo f_A_vote f_A_who f_R_act f_R_alias f_R_bed f_R_beds f_R_birthdays f_R_book f_R_boot f_R_box f_R_end f_R_fault f_R_feed f_R_game f_R_goes f_R_hoop f_R_hours f_R_image f_R_keeps f_R_least f_R_letter f_R_loan f_R_look f_R_named f_R_names f_R_net f_R_notes f_R_of f_R_pair f_R_person f_R_persons f_R_says f_R_set f_R_settled f_R_sighted f_R_speakers f_R_state f_R_street f_R_swings f_R_text f_R_undo f_R_vote f_R_who) [] [18, 212, 235, 268, 311, 354, 397, 420, 483, 506, 529, 552, 585, 618, 651, 684, 717, 740, 773, 806, 865, 888, 947, 970, 993, 1026, 1049, 1092, 1125, 1148, 1171, 1204, 1227, 1250, 1273, 1306, 1349, 1392, 1415, 1458, 1471, 1510, 1533] (fun pc ls st => mC (Nat.beq pc 1533) (mN st <| k_1533 x3) (fl)) (fun v => match v with | some (_, .int x) => rt (.inr x) | _ => fl) 1072 1415 [(9997, .ref 1000000), (111, .ref 0), (112, .ref 207), (0, .int x3)] [] = (bn (gd (inR (x3 + (1 : Int32)) L)) fun _ =>
  bn (gd (inR (x3 + (2 : Int32)) L)) fun _ =>
  bn (gd (inR (x3 + (3 : Int32)) L)) fun _ =>
  bn (f_A_game (X ((x3 + (1 : Int32))).toNatClampNeg) (X ((x3 + (2 : Int32))).toNatClampNeg) (X ((x3 + (3 : Int32))).toNatClampNeg)) fun v1 =>
  bn (gd (inR (x3 + (1 : Int32)) L)) fun _ =>
  bn (gd (inR (x3 + (2 : Int32)) L)) fun _ =>
  bn (gd (inR (x3 + (3 : Int32)) L)) fun _ =>
  bn (f_R_game (X ((x3 + (1 : Int32))).toNatClampNeg) (X ((x3 + (2 : Int32))).toNatClampNeg) (X ((x3 + (3 : Int32))).toNatClampNeg)) fun v2 =>
  (if v1 = v2 then
    k_1533 x3
  else
    bn (gdZ (0 : Int32)) fun _ => rt (.inr (0 : Int32)))) := rfl
theorem s_L_law_1415 {d : Nat} (L : Nat) (X : Nat → Int32) (hcs : AllS L X d (cs_L_law F_A_act F_A_alias F_A_bed F_A_beds F_A_birthdays F_A_book F_A_boot F_A_box F_A_end F_A_fault F_A_feed F_A_game F_A_goes F_A_hoop F_A_hours F_A_image F_A_keeps F_A_least F_A_letter F_A_loan F_A_look F_A_named F_A_names F_A_net F_A_notes F_A_of F_A_pair F_A_person F_A_persons F_A_says F_A_set F_A_settled F_A_sighted F_A_speakers F_A_state F_A_street F_A_swings F_A_text F_A_undo F_A_vote F_A_who F_R_act F_R_alias F_R_bed F_R_beds F_R_birthdays F_R_book F_R_boot F_R_box F_R_end F_R_fault F_R_feed F_R_game F_R_goes F_R_hoop F_R_hours F_R_image F_R_keeps F_R_least F_R_letter F_R_loan F_R_look F_R_named F_R_names F_R_net F_R_notes F_R_of F_R_pair F_R_person F_R_persons F_R_says F_R_set F_R_settled F_R_sighted F_R_speakers F_R_state F_R_street F_R_swings F_R_text F_R_undo F_R_vote F_R_who)) (x3 : Int32) {o : Option Value × PH} {Q : ((Int32) ⊕ (Int32)) → MI → Prop} (qb : ∀ y I, Q (.inl y) I → At L X (d + 1) 331 18 [(9997, .ref 1000000), (111, .ref 0), (112, .ref 207), (0, .int y)] [] I o) (qr : ∀ v I, Q (.inr v) I → o = (some (.int v), HH I)) (I : MI) (r : (Int32) ⊕ (Int32)) (I1 : MI) (h : K_L_law_1415 L X x3 I = some (r, I1)) (hq : Q r I1) : At L X (d + 1) 331 1415 [(9997, .ref 1000000), (111, .ref 0), (112, .ref 207), (0, .int x3)] [] I o := by
  refine wf_ok z_L_law hcs ?_ ?_ _ _ _ _ _ ⟨rfl, rfl, rfl, trivial, trivial⟩ trivial (unm_refl _ _) ((congrFun (e_s_L_law_1415 (L := L) (X := X) F_A_act F_A_alias F_A_bed F_A_beds F_A_birthdays F_A_book F_A_boot F_A_box F_A_end F_A_fault F_A_feed F_A_game F_A_goes F_A_hoop F_A_hours F_A_image F_A_keeps F_A_least F_A_letter F_A_loan F_A_look F_A_named F_A_names F_A_net F_A_notes F_A_of F_A_pair F_A_person F_A_persons F_A_says F_A_set F_A_settled F_A_sighted F_A_speakers F_A_state F_A_street F_A_swings F_A_text F_A_undo F_A_vote F_A_who F_R_act F_R_alias F_R_bed F_R_beds F_R_birthdays F_R_book F_R_boot F_R_box F_R_end F_R_fault F_R_feed F_R_game F_R_goes F_R_hoop F_R_hours F_R_image F_R_keeps F_R_least F_R_letter F_R_loan F_R_look F_R_named F_R_names F_R_net F_R_notes F_R_of F_R_pair F_R_person F_R_persons F_R_says F_R_set F_R_settled F_R_sighted F_R_speakers F_R_state F_R_street F_R_swings F_R_text F_R_undo F_R_vote F_R_who (K_L_law_1533 L X) x3) I).trans h)
  · intro pc ls st I2 h1 h2 h3 h
    rcases mC_ok h with ⟨hb, h⟩ | ⟨_, h⟩
    · have e := Nat.eq_of_beq_eq_true hb
      subst e
      obtain ⟨hst, h⟩ := mN_ok h
      subst hst
      refine at_leaf (ls2 := [(9997, .ref 1000000), (111, .ref 0), (112, .ref 207), (0, .int x3)]) h3.1 ⟨Or.inr ⟨_, (h3.2 0 rfl).trans rfl⟩, Or.inr ⟨_, (h3.2 1 rfl).trans rfl⟩, Or.inr ⟨_, (h3.2 2 rfl).trans rfl⟩, Or.inr ⟨_, (h3.2 3 rfl).trans rfl⟩, trivial⟩ ?_
      exact s_L_law_1533 L X hcs x3 qb qr _ _ _ h hq
    cases h
  · intro v I2 _ h
    split at h
    · cases h; exact qr _ _ hq
    · cases h
def K_L_law_1458 (L : Nat) (X : Nat → Int32) (x3 : Int32) : M ((Int32) ⊕ (Int32)) :=
  bn (F_A_undo) fun v1 =>
  bn (F_R_undo) fun v2 =>
  (if v1 = v2 then
    K_L_law_1533 L X x3
  else
    bn (gdZ (0 : Int32)) fun _ => rt (.inr (0 : Int32)))
set_option maxRecDepth 4000 in
theorem e_s_L_law_1458 (f_A_act : Int32 → Int32 → Int32 → M Int32) (f_A_alias : Int32 → Int32 → Int32 → M Int32) (f_A_bed : Int32 → Int32 → M Int32) (f_A_beds : Int32 → M Int32) (f_A_birthdays : Int32 → Int32 → Int32 → M Int32) (f_A_book : Int32 → Int32 → M Int32) (f_A_boot : Int32 → M Int32) (f_A_box : Int32 → M Int32) (f_A_end : Int32 → M Int32) (f_A_fault : Int32 → M Int32) (f_A_feed : Int32 → Int32 → Int32 → Int32 → Int32 → M Int32) (f_A_game : Int32 → Int32 → Int32 → M Int32) (f_A_goes : Int32 → Int32 → M Int32) (f_A_hoop : Int32 → Int32 → Int32 → M Int32) (f_A_hours : Int32 → M Int32) (f_A_image : Int32 → M Int32) (f_A_keeps : Int32 → M Int32) (f_A_least : Int32 → M Int32) (f_A_letter : Int32 → Int32 → M Int32) (f_A_loan : Int32 → Int32 → Int32 → M Int32) (f_A_look : Int32 → M Int32) (f_A_named : Int32 → M Int32) (f_A_names : Int32 → M Int32) (f_A_net : Int32 → Int32 → M Int32) (f_A_notes : Int32 → M Int32) (f_A_of : Int32 → Int32 → M Int32) (f_A_pair : Int32 → Int32 → Int32 → M Int32) (f_A_person : Int32 → Int32 → M Int32) (f_A_persons : Int32 → Int32 → M Int32) (f_A_says : Int32 → Int32 → Int32 → M Int32) (f_A_set : Int32 → Int32 → Int32 → M Int32) (f_A_settled : Int32 → M Int32) (f_A_sighted : Int32 → Int32 → M Int32) (f_A_speakers : Int32 → M Int32) (f_A_state : Int32 → M Int32) (f_A_street : Int32 → Int32 → M Int32) (f_A_swings : Int32 → Int32 → M Int32) (f_A_text : Int32 → M Int32) (f_A_undo : M Int32) (f_A_vote : Int32 → M Int32) (f_A_who : Int32 → Int32 → M Int32) (f_R_act : Int32 → Int32 → Int32 → M Int32) (f_R_alias : Int32 → Int32 → Int32 → M Int32) (f_R_bed : Int32 → Int32 → M Int32) (f_R_beds : Int32 → M Int32) (f_R_birthdays : Int32 → Int32 → Int32 → M Int32) (f_R_book : Int32 → Int32 → M Int32) (f_R_boot : Int32 → M Int32) (f_R_box : Int32 → M Int32) (f_R_end : Int32 → M Int32) (f_R_fault : Int32 → M Int32) (f_R_feed : Int32 → Int32 → Int32 → Int32 → Int32 → M Int32) (f_R_game : Int32 → Int32 → Int32 → M Int32) (f_R_goes : Int32 → Int32 → M Int32) (f_R_hoop : Int32 → Int32 → Int32 → M Int32) (f_R_hours : Int32 → M Int32) (f_R_image : Int32 → M Int32) (f_R_keeps : Int32 → M Int32) (f_R_least : Int32 → M Int32) (f_R_letter : Int32 → Int32 → M Int32) (f_R_loan : Int32 → Int32 → Int32 → M Int32) (f_R_look : Int32 → M Int32) (f_R_named : Int32 → M Int32) (f_R_names : Int32 → M Int32) (f_R_net : Int32 → Int32 → M Int32) (f_R_notes : Int32 → M Int32) (f_R_of : Int32 → Int32 → M Int32) (f_R_pair : Int32 → Int32 → Int32 → M Int32) (f_R_person : Int32 → Int32 → M Int32) (f_R_persons : Int32 → Int32 → M Int32) (f_R_says : Int32 → Int32 → Int32 → M Int32) (f_R_set : Int32 → Int32 → Int32 → M Int32) (f_R_settled : Int32 → M Int32) (f_R_sighted : Int32 → Int32 → M Int32) (f_R_speakers : Int32 → M Int32) (f_R_state : Int32 → M Int32) (f_R_street : Int32 → Int32 → M Int32) (f_R_swings : Int32 → Int32 → M Int32) (f_R_text : Int32 → M Int32) (f_R_undo : M Int32) (f_R_vote : Int32 → M Int32) (f_R_who : Int32 → Int32 → M Int32) (k_1533 : Int32 → M ((Int32) ⊕ (Int32))) (x3 : Int32) : wf (β := (Int32) ⊕ (Int32)) L X q_L_law 2 (cs_L_law f_A_act f_A_alias f_A_bed f_A_beds f_A_birthdays f_A_book f_A_boot f_A_box f_A_end f_A_fault f_A_feed f_A_game f_A_goes f_A_hoop f_A_hours f_A_image f_A_keeps f_A_least f_A_letter f_A_loan f_A_look f_A_named f_A_names f_A_net f_A_notes f_A_of f_A_pair f_A_person f_A_persons f_A_says f_A_set f_A_settled f_A_sighted f_A_speakers f_A_state f_A_street f_A_swings f_A_text f_A_undo f_A_vote f_A_who f_R_act f_R_alias f_R_bed f_R_beds f_R_birthdays f_R_book f_R_boot f_R_box f_R_end f_R_fault f_R_feed f_R_game f_R_goes f_R_hoop f_R_hours f_R_image f_R_keeps f_R_least f_R_letter f_R_loan f_R_look f_R_named f_R_names f_R_net f_R_notes f_R_of f_R_pair f_R_person f_R_persons f_R_says f_R_set f_R_settled f_R_sighted f_R_speakers f_R_state f_R_street f_R_swings f_R_text f_R_undo f_R_vote f_R_who) [] [18, 212, 235, 268, 311, 354, 397, 420, 483, 506, 529, 552, 585, 618, 651, 684, 717, 740, 773, 806, 865, 888, 947, 970, 993, 1026, 1049, 1092, 1125, 1148, 1171, 1204, 1227, 1250, 1273, 1306, 1349, 1392, 1415, 1458, 1471, 1510, 1533] (fun pc ls st => mC (Nat.beq pc 1533) (mN st <| k_1533 x3) (fl)) (fun v => match v with | some (_, .int x) => rt (.inr x) | _ => fl) 1072 1458 [(9997, .ref 1000000), (111, .ref 0), (112, .ref 207), (0, .int x3)] [] = (bn (f_A_undo) fun v1 =>
  bn (f_R_undo) fun v2 =>
  (if v1 = v2 then
    k_1533 x3
  else
    bn (gdZ (0 : Int32)) fun _ => rt (.inr (0 : Int32)))) := rfl
theorem s_L_law_1458 {d : Nat} (L : Nat) (X : Nat → Int32) (hcs : AllS L X d (cs_L_law F_A_act F_A_alias F_A_bed F_A_beds F_A_birthdays F_A_book F_A_boot F_A_box F_A_end F_A_fault F_A_feed F_A_game F_A_goes F_A_hoop F_A_hours F_A_image F_A_keeps F_A_least F_A_letter F_A_loan F_A_look F_A_named F_A_names F_A_net F_A_notes F_A_of F_A_pair F_A_person F_A_persons F_A_says F_A_set F_A_settled F_A_sighted F_A_speakers F_A_state F_A_street F_A_swings F_A_text F_A_undo F_A_vote F_A_who F_R_act F_R_alias F_R_bed F_R_beds F_R_birthdays F_R_book F_R_boot F_R_box F_R_end F_R_fault F_R_feed F_R_game F_R_goes F_R_hoop F_R_hours F_R_image F_R_keeps F_R_least F_R_letter F_R_loan F_R_look F_R_named F_R_names F_R_net F_R_notes F_R_of F_R_pair F_R_person F_R_persons F_R_says F_R_set F_R_settled F_R_sighted F_R_speakers F_R_state F_R_street F_R_swings F_R_text F_R_undo F_R_vote F_R_who)) (x3 : Int32) {o : Option Value × PH} {Q : ((Int32) ⊕ (Int32)) → MI → Prop} (qb : ∀ y I, Q (.inl y) I → At L X (d + 1) 331 18 [(9997, .ref 1000000), (111, .ref 0), (112, .ref 207), (0, .int y)] [] I o) (qr : ∀ v I, Q (.inr v) I → o = (some (.int v), HH I)) (I : MI) (r : (Int32) ⊕ (Int32)) (I1 : MI) (h : K_L_law_1458 L X x3 I = some (r, I1)) (hq : Q r I1) : At L X (d + 1) 331 1458 [(9997, .ref 1000000), (111, .ref 0), (112, .ref 207), (0, .int x3)] [] I o := by
  refine wf_ok z_L_law hcs ?_ ?_ _ _ _ _ _ ⟨rfl, rfl, rfl, trivial, trivial⟩ trivial (unm_refl _ _) ((congrFun (e_s_L_law_1458 (L := L) (X := X) F_A_act F_A_alias F_A_bed F_A_beds F_A_birthdays F_A_book F_A_boot F_A_box F_A_end F_A_fault F_A_feed F_A_game F_A_goes F_A_hoop F_A_hours F_A_image F_A_keeps F_A_least F_A_letter F_A_loan F_A_look F_A_named F_A_names F_A_net F_A_notes F_A_of F_A_pair F_A_person F_A_persons F_A_says F_A_set F_A_settled F_A_sighted F_A_speakers F_A_state F_A_street F_A_swings F_A_text F_A_undo F_A_vote F_A_who F_R_act F_R_alias F_R_bed F_R_beds F_R_birthdays F_R_book F_R_boot F_R_box F_R_end F_R_fault F_R_feed F_R_game F_R_goes F_R_hoop F_R_hours F_R_image F_R_keeps F_R_least F_R_letter F_R_loan F_R_look F_R_named F_R_names F_R_net F_R_notes F_R_of F_R_pair F_R_person F_R_persons F_R_says F_R_set F_R_settled F_R_sighted F_R_speakers F_R_state F_R_street F_R_swings F_R_text F_R_undo F_R_vote F_R_who (K_L_law_1533 L X) x3) I).trans h)
  · intro pc ls st I2 h1 h2 h3 h
    rcases mC_ok h with ⟨hb, h⟩ | ⟨_, h⟩
    · have e := Nat.eq_of_beq_eq_true hb
      subst e
      obtain ⟨hst, h⟩ := mN_ok h
      subst hst
      refine at_leaf (ls2 := [(9997, .ref 1000000), (111, .ref 0), (112, .ref 207), (0, .int x3)]) h3.1 ⟨Or.inr ⟨_, (h3.2 0 rfl).trans rfl⟩, Or.inr ⟨_, (h3.2 1 rfl).trans rfl⟩, Or.inr ⟨_, (h3.2 2 rfl).trans rfl⟩, Or.inr ⟨_, (h3.2 3 rfl).trans rfl⟩, trivial⟩ ?_
      exact s_L_law_1533 L X hcs x3 qb qr _ _ _ h hq
    cases h
  · intro v I2 _ h
    split at h
    · cases h; exact qr _ _ hq
    · cases h
def K_L_law_1471 (L : Nat) (X : Nat → Int32) (x3 : Int32) : M ((Int32) ⊕ (Int32)) :=
  bn (gd (inR (x3 + (1 : Int32)) L)) fun _ =>
  (if (X ((x3 + (1 : Int32))).toNatClampNeg) = 0 then
    bn (F_A_image (0 : Int32)) fun v1 =>
    bn (gd (inR (x3 + (1 : Int32)) L)) fun _ =>
    (if (X ((x3 + (1 : Int32))).toNatClampNeg) = 0 then
      bn (F_R_image (0 : Int32)) fun v2 =>
      (if v1 = v2 then
        K_L_law_1533 L X x3
      else
        bn (gdZ (0 : Int32)) fun _ => rt (.inr (0 : Int32)))
    else
      bn (F_R_image (1 : Int32)) fun v3 =>
      (if v1 = v3 then
        K_L_law_1533 L X x3
      else
        bn (gdZ (0 : Int32)) fun _ => rt (.inr (0 : Int32))))
  else
    bn (F_A_image (1 : Int32)) fun v4 =>
    bn (gd (inR (x3 + (1 : Int32)) L)) fun _ =>
    (if (X ((x3 + (1 : Int32))).toNatClampNeg) = 0 then
      bn (F_R_image (0 : Int32)) fun v5 =>
      (if v4 = v5 then
        K_L_law_1533 L X x3
      else
        bn (gdZ (0 : Int32)) fun _ => rt (.inr (0 : Int32)))
    else
      bn (F_R_image (1 : Int32)) fun v6 =>
      (if v4 = v6 then
        K_L_law_1533 L X x3
      else
        bn (gdZ (0 : Int32)) fun _ => rt (.inr (0 : Int32)))))
set_option maxRecDepth 4000 in
theorem e_s_L_law_1471 (f_A_act : Int32 → Int32 → Int32 → M Int32) (f_A_alias : Int32 → Int32 → Int32 → M Int32) (f_A_bed : Int32 → Int32 → M Int32) (f_A_beds : Int32 → M Int32) (f_A_birthdays : Int32 → Int32 → Int32 → M Int32) (f_A_book : Int32 → Int32 → M Int32) (f_A_boot : Int32 → M Int32) (f_A_box : Int32 → M Int32) (f_A_end : Int32 → M Int32) (f_A_fault : Int32 → M Int32) (f_A_feed : Int32 → Int32 → Int32 → Int32 → Int32 → M Int32) (f_A_game : Int32 → Int32 → Int32 → M Int32) (f_A_goes : Int32 → Int32 → M Int32) (f_A_hoop : Int32 → Int32 → Int32 → M Int32) (f_A_hours : Int32 → M Int32) (f_A_image : Int32 → M Int32) (f_A_keeps : Int32 → M Int32) (f_A_least : Int32 → M Int32) (f_A_letter : Int32 → Int32 → M Int32) (f_A_loan : Int32 → Int32 → Int32 → M Int32) (f_A_look : Int32 → M Int32) (f_A_named : Int32 → M Int32) (f_A_names : Int32 → M Int32) (f_A_net : Int32 → Int32 → M Int32) (f_A_notes : Int32 → M Int32) (f_A_of : Int32 → Int32 → M Int32) (f_A_pair : Int32 → Int32 → Int32 → M Int32) (f_A_person : Int32 → Int32 → M Int32) (f_A_persons : Int32 → Int32 → M Int32) (f_A_says : Int32 → Int32 → Int32 → M Int32) (f_A_set : Int32 → Int32 → Int32 → M Int32) (f_A_settled : Int32 → M Int32) (f_A_sighted : Int32 → Int32 → M Int32) (f_A_speakers : Int32 → M Int32) (f_A_state : Int32 → M Int32) (f_A_street : Int32 → Int32 → M Int32) (f_A_swings : Int32 → Int32 → M Int32) (f_A_text : Int32 → M Int32) (f_A_undo : M Int32) (f_A_vote : Int32 → M Int32) (f_A_who : Int32 → Int32 → M Int32) (f_R_act : Int32 → Int32 → Int32 → M Int32) (f_R_alias : Int32 → Int32 → Int32 → M Int32) (f_R_bed : Int32 → Int32 → M Int32) (f_R_beds : Int32 → M Int32) (f_R_birthdays : Int32 → Int32 → Int32 → M Int32) (f_R_book : Int32 → Int32 → M Int32) (f_R_boot : Int32 → M Int32) (f_R_box : Int32 → M Int32) (f_R_end : Int32 → M Int32) (f_R_fault : Int32 → M Int32) (f_R_feed : Int32 → Int32 → Int32 → Int32 → Int32 → M Int32) (f_R_game : Int32 → Int32 → Int32 → M Int32) (f_R_goes : Int32 → Int32 → M Int32) (f_R_hoop : Int32 → Int32 → Int32 → M Int32) (f_R_hours : Int32 → M Int32) (f_R_image : Int32 → M Int32) (f_R_keeps : Int32 → M Int32) (f_R_least : Int32 → M Int32) (f_R_letter : Int32 → Int32 → M Int32) (f_R_loan : Int32 → Int32 → Int32 → M Int32) (f_R_look : Int32 → M Int32) (f_R_named : Int32 → M Int32) (f_R_names : Int32 → M Int32) (f_R_net : Int32 → Int32 → M Int32) (f_R_notes : Int32 → M Int32) (f_R_of : Int32 → Int32 → M Int32) (f_R_pair : Int32 → Int32 → Int32 → M Int32) (f_R_person : Int32 → Int32 → M Int32) (f_R_persons : Int32 → Int32 → M Int32) (f_R_says : Int32 → Int32 → Int32 → M Int32) (f_R_set : Int32 → Int32 → Int32 → M Int32) (f_R_settled : Int32 → M Int32) (f_R_sighted : Int32 → Int32 → M Int32) (f_R_speakers : Int32 → M Int32) (f_R_state : Int32 → M Int32) (f_R_street : Int32 → Int32 → M Int32) (f_R_swings : Int32 → Int32 → M Int32) (f_R_text : Int32 → M Int32) (f_R_undo : M Int32) (f_R_vote : Int32 → M Int32) (f_R_who : Int32 → Int32 → M Int32) (k_1533 : Int32 → M ((Int32) ⊕ (Int32))) (x3 : Int32) : wf (β := (Int32) ⊕ (Int32)) L X q_L_law 2 (cs_L_law f_A_act f_A_alias f_A_bed f_A_beds f_A_birthdays f_A_book f_A_boot f_A_box f_A_end f_A_fault f_A_feed f_A_game f_A_goes f_A_hoop f_A_hours f_A_image f_A_keeps f_A_least f_A_letter f_A_loan f_A_look f_A_named f_A_names f_A_net f_A_notes f_A_of f_A_pair f_A_person f_A_persons f_A_says f_A_set f_A_settled f_A_sighted f_A_speakers f_A_state f_A_street f_A_swings f_A_text f_A_undo f_A_vote f_A_who f_R_act f_R_alias f_R_bed f_R_beds f_R_birthdays f_R_book f_R_boot f_R_box f_R_end f_R_fault f_R_feed f_R_game f_R_goes f_R_hoop f_R_hours f_R_image f_R_keeps f_R_least f_R_letter f_R_loan f_R_look f_R_named f_R_names f_R_net f_R_notes f_R_of f_R_pair f_R_person f_R_persons f_R_says f_R_set f_R_settled f_R_sighted f_R_speakers f_R_state f_R_street f_R_swings f_R_text f_R_undo f_R_vote f_R_who) [] [18, 212, 235, 268, 311, 354, 397, 420, 483, 506, 529, 552, 585, 618, 651, 684, 717, 740, 773, 806, 865, 888, 947, 970, 993, 1026, 1049, 1092, 1125, 1148, 1171, 1204, 1227, 1250, 1273, 1306, 1349, 1392, 1415, 1458, 1471, 1510, 1533] (fun pc ls st => mC (Nat.beq pc 1533) (mN st <| k_1533 x3) (fl)) (fun v => match v with | some (_, .int x) => rt (.inr x) | _ => fl) 1072 1471 [(9997, .ref 1000000), (111, .ref 0), (112, .ref 207), (0, .int x3)] [] = (bn (gd (inR (x3 + (1 : Int32)) L)) fun _ =>
  (if (X ((x3 + (1 : Int32))).toNatClampNeg) = 0 then
    bn (f_A_image (0 : Int32)) fun v1 =>
    bn (gd (inR (x3 + (1 : Int32)) L)) fun _ =>
    (if (X ((x3 + (1 : Int32))).toNatClampNeg) = 0 then
      bn (f_R_image (0 : Int32)) fun v2 =>
      (if v1 = v2 then
        k_1533 x3
      else
        bn (gdZ (0 : Int32)) fun _ => rt (.inr (0 : Int32)))
    else
      bn (f_R_image (1 : Int32)) fun v3 =>
      (if v1 = v3 then
        k_1533 x3
      else
        bn (gdZ (0 : Int32)) fun _ => rt (.inr (0 : Int32))))
  else
    bn (f_A_image (1 : Int32)) fun v4 =>
    bn (gd (inR (x3 + (1 : Int32)) L)) fun _ =>
    (if (X ((x3 + (1 : Int32))).toNatClampNeg) = 0 then
      bn (f_R_image (0 : Int32)) fun v5 =>
      (if v4 = v5 then
        k_1533 x3
      else
        bn (gdZ (0 : Int32)) fun _ => rt (.inr (0 : Int32)))
    else
      bn (f_R_image (1 : Int32)) fun v6 =>
      (if v4 = v6 then
        k_1533 x3
      else
        bn (gdZ (0 : Int32)) fun _ => rt (.inr (0 : Int32)))))) := rfl
theorem s_L_law_1471 {d : Nat} (L : Nat) (X : Nat → Int32) (hcs : AllS L X d (cs_L_law F_A_act F_A_alias F_A_bed F_A_beds F_A_birthdays F_A_book F_A_boot F_A_box F_A_end F_A_fault F_A_feed F_A_game F_A_goes F_A_hoop F_A_hours F_A_image F_A_keeps F_A_least F_A_letter F_A_loan F_A_look F_A_named F_A_names F_A_net F_A_notes F_A_of F_A_pair F_A_person F_A_persons F_A_says F_A_set F_A_settled F_A_sighted F_A_speakers F_A_state F_A_street F_A_swings F_A_text F_A_undo F_A_vote F_A_who F_R_act F_R_alias F_R_bed F_R_beds F_R_birthdays F_R_book F_R_boot F_R_box F_R_end F_R_fault F_R_feed F_R_game F_R_goes F_R_hoop F_R_hours F_R_image F_R_keeps F_R_least F_R_letter F_R_loan F_R_look F_R_named F_R_names F_R_net F_R_notes F_R_of F_R_pair F_R_person F_R_persons F_R_says F_R_set F_R_settled F_R_sighted F_R_speakers F_R_state F_R_street F_R_swings F_R_text F_R_undo F_R_vote F_R_who)) (x3 : Int32) {o : Option Value × PH} {Q : ((Int32) ⊕ (Int32)) → MI → Prop} (qb : ∀ y I, Q (.inl y) I → At L X (d + 1) 331 18 [(9997, .ref 1000000), (111, .ref 0), (112, .ref 207), (0, .int y)] [] I o) (qr : ∀ v I, Q (.inr v) I → o = (some (.int v), HH I)) (I : MI) (r : (Int32) ⊕ (Int32)) (I1 : MI) (h : K_L_law_1471 L X x3 I = some (r, I1)) (hq : Q r I1) : At L X (d + 1) 331 1471 [(9997, .ref 1000000), (111, .ref 0), (112, .ref 207), (0, .int x3)] [] I o := by
  refine wf_ok z_L_law hcs ?_ ?_ _ _ _ _ _ ⟨rfl, rfl, rfl, trivial, trivial⟩ trivial (unm_refl _ _) ((congrFun (e_s_L_law_1471 (L := L) (X := X) F_A_act F_A_alias F_A_bed F_A_beds F_A_birthdays F_A_book F_A_boot F_A_box F_A_end F_A_fault F_A_feed F_A_game F_A_goes F_A_hoop F_A_hours F_A_image F_A_keeps F_A_least F_A_letter F_A_loan F_A_look F_A_named F_A_names F_A_net F_A_notes F_A_of F_A_pair F_A_person F_A_persons F_A_says F_A_set F_A_settled F_A_sighted F_A_speakers F_A_state F_A_street F_A_swings F_A_text F_A_undo F_A_vote F_A_who F_R_act F_R_alias F_R_bed F_R_beds F_R_birthdays F_R_book F_R_boot F_R_box F_R_end F_R_fault F_R_feed F_R_game F_R_goes F_R_hoop F_R_hours F_R_image F_R_keeps F_R_least F_R_letter F_R_loan F_R_look F_R_named F_R_names F_R_net F_R_notes F_R_of F_R_pair F_R_person F_R_persons F_R_says F_R_set F_R_settled F_R_sighted F_R_speakers F_R_state F_R_street F_R_swings F_R_text F_R_undo F_R_vote F_R_who (K_L_law_1533 L X) x3) I).trans h)
  · intro pc ls st I2 h1 h2 h3 h
    rcases mC_ok h with ⟨hb, h⟩ | ⟨_, h⟩
    · have e := Nat.eq_of_beq_eq_true hb
      subst e
      obtain ⟨hst, h⟩ := mN_ok h
      subst hst
      refine at_leaf (ls2 := [(9997, .ref 1000000), (111, .ref 0), (112, .ref 207), (0, .int x3)]) h3.1 ⟨Or.inr ⟨_, (h3.2 0 rfl).trans rfl⟩, Or.inr ⟨_, (h3.2 1 rfl).trans rfl⟩, Or.inr ⟨_, (h3.2 2 rfl).trans rfl⟩, Or.inr ⟨_, (h3.2 3 rfl).trans rfl⟩, trivial⟩ ?_
      exact s_L_law_1533 L X hcs x3 qb qr _ _ _ h hq
    cases h
  · intro v I2 _ h
    split at h
    · cases h; exact qr _ _ hq
    · cases h
def K_L_law_1510 (L : Nat) (X : Nat → Int32) (x3 : Int32) : M ((Int32) ⊕ (Int32)) :=
  bn (gd (inR (x3 + (1 : Int32)) L)) fun _ =>
  bn (F_A_look (X ((x3 + (1 : Int32))).toNatClampNeg)) fun v1 =>
  bn (gd (inR (x3 + (1 : Int32)) L)) fun _ =>
  bn (F_R_look (X ((x3 + (1 : Int32))).toNatClampNeg)) fun v2 =>
  (if v1 = v2 then
    K_L_law_1533 L X x3
  else
    bn (gdZ (0 : Int32)) fun _ => rt (.inr (0 : Int32)))
set_option maxRecDepth 4000 in
theorem e_s_L_law_1510 (f_A_act : Int32 → Int32 → Int32 → M Int32) (f_A_alias : Int32 → Int32 → Int32 → M Int32) (f_A_bed : Int32 → Int32 → M Int32) (f_A_beds : Int32 → M Int32) (f_A_birthdays : Int32 → Int32 → Int32 → M Int32) (f_A_book : Int32 → Int32 → M Int32) (f_A_boot : Int32 → M Int32) (f_A_box : Int32 → M Int32) (f_A_end : Int32 → M Int32) (f_A_fault : Int32 → M Int32) (f_A_feed : Int32 → Int32 → Int32 → Int32 → Int32 → M Int32) (f_A_game : Int32 → Int32 → Int32 → M Int32) (f_A_goes : Int32 → Int32 → M Int32) (f_A_hoop : Int32 → Int32 → Int32 → M Int32) (f_A_hours : Int32 → M Int32) (f_A_image : Int32 → M Int32) (f_A_keeps : Int32 → M Int32) (f_A_least : Int32 → M Int32) (f_A_letter : Int32 → Int32 → M Int32) (f_A_loan : Int32 → Int32 → Int32 → M Int32) (f_A_look : Int32 → M Int32) (f_A_named : Int32 → M Int32) (f_A_names : Int32 → M Int32) (f_A_net : Int32 → Int32 → M Int32) (f_A_notes : Int32 → M Int32) (f_A_of : Int32 → Int32 → M Int32) (f_A_pair : Int32 → Int32 → Int32 → M Int32) (f_A_person : Int32 → Int32 → M Int32) (f_A_persons : Int32 → Int32 → M Int32) (f_A_says : Int32 → Int32 → Int32 → M Int32) (f_A_set : Int32 → Int32 → Int32 → M Int32) (f_A_settled : Int32 → M Int32) (f_A_sighted : Int32 → Int32 → M Int32) (f_A_speakers : Int32 → M Int32) (f_A_state : Int32 → M Int32) (f_A_street : Int32 → Int32 → M Int32) (f_A_swings : Int32 → Int32 → M Int32) (f_A_text : Int32 → M Int32) (f_A_undo : M Int32) (f_A_vote : Int32 → M Int32) (f_A_who : Int32 → Int32 → M Int32) (f_R_act : Int32 → Int32 → Int32 → M Int32) (f_R_alias : Int32 → Int32 → Int32 → M Int32) (f_R_bed : Int32 → Int32 → M Int32) (f_R_beds : Int32 → M Int32) (f_R_birthdays : Int32 → Int32 → Int32 → M Int32) (f_R_book : Int32 → Int32 → M Int32) (f_R_boot : Int32 → M Int32) (f_R_box : Int32 → M Int32) (f_R_end : Int32 → M Int32) (f_R_fault : Int32 → M Int32) (f_R_feed : Int32 → Int32 → Int32 → Int32 → Int32 → M Int32) (f_R_game : Int32 → Int32 → Int32 → M Int32) (f_R_goes : Int32 → Int32 → M Int32) (f_R_hoop : Int32 → Int32 → Int32 → M Int32) (f_R_hours : Int32 → M Int32) (f_R_image : Int32 → M Int32) (f_R_keeps : Int32 → M Int32) (f_R_least : Int32 → M Int32) (f_R_letter : Int32 → Int32 → M Int32) (f_R_loan : Int32 → Int32 → Int32 → M Int32) (f_R_look : Int32 → M Int32) (f_R_named : Int32 → M Int32) (f_R_names : Int32 → M Int32) (f_R_net : Int32 → Int32 → M Int32) (f_R_notes : Int32 → M Int32) (f_R_of : Int32 → Int32 → M Int32) (f_R_pair : Int32 → Int32 → Int32 → M Int32) (f_R_person : Int32 → Int32 → M Int32) (f_R_persons : Int32 → Int32 → M Int32) (f_R_says : Int32 → Int32 → Int32 → M Int32) (f_R_set : Int32 → Int32 → Int32 → M Int32) (f_R_settled : Int32 → M Int32) (f_R_sighted : Int32 → Int32 → M Int32) (f_R_speakers : Int32 → M Int32) (f_R_state : Int32 → M Int32) (f_R_street : Int32 → Int32 → M Int32) (f_R_swings : Int32 → Int32 → M Int32) (f_R_text : Int32 → M Int32) (f_R_undo : M Int32) (f_R_vote : Int32 → M Int32) (f_R_who : Int32 → Int32 → M Int32) (k_1533 : Int32 → M ((Int32) ⊕ (Int32))) (x3 : Int32) : wf (β := (Int32) ⊕ (Int32)) L X q_L_law 2 (cs_L_law f_A_act f_A_alias f_A_bed f_A_beds f_A_birthdays f_A_book f_A_boot f_A_box f_A_end f_A_fault f_A_feed f_A_game f_A_goes f_A_hoop f_A_hours f_A_image f_A_keeps f_A_least f_A_letter f_A_loan f_A_look f_A_named f_A_names f_A_net f_A_notes f_A_of f_A_pair f_A_person f_A_persons f_A_says f_A_set f_A_settled f_A_sighted f_A_speakers f_A_state f_A_street f_A_swings f_A_text f_A_undo f_A_vote f_A_who f_R_act f_R_alias f_R_bed f_R_beds f_R_birthdays f_R_book f_R_boot f_R_box f_R_end f_R_fault f_R_feed f_R_game f_R_goes f_R_hoop f_R_hours f_R_image f_R_keeps f_R_least f_R_letter f_R_loan f_R_look f_R_named f_R_names f_R_net f_R_notes f_R_of f_R_pair f_R_person f_R_persons f_R_says f_R_set f_R_settled f_R_sighted f_R_speakers f_R_state f_R_street f_R_swings f_R_text f_R_undo f_R_vote f_R_who) [] [18, 212, 235, 268, 311, 354, 397, 420, 483, 506, 529, 552, 585, 618, 651, 684, 717, 740, 773, 806, 865, 888, 947, 970, 993, 1026, 1049, 1092, 1125, 1148, 1171, 1204, 1227, 1250, 1273, 1306, 1349, 1392, 1415, 1458, 1471, 1510, 1533] (fun pc ls st => mC (Nat.beq pc 1533) (mN st <| k_1533 x3) (fl)) (fun v => match v with | some (_, .int x) => rt (.inr x) | _ => fl) 1072 1510 [(9997, .ref 1000000), (111, .ref 0), (112, .ref 207), (0, .int x3)] [] = (bn (gd (inR (x3 + (1 : Int32)) L)) fun _ =>
  bn (f_A_look (X ((x3 + (1 : Int32))).toNatClampNeg)) fun v1 =>
  bn (gd (inR (x3 + (1 : Int32)) L)) fun _ =>
  bn (f_R_look (X ((x3 + (1 : Int32))).toNatClampNeg)) fun v2 =>
  (if v1 = v2 then
    k_1533 x3
  else
    bn (gdZ (0 : Int32)) fun _ => rt (.inr (0 : Int32)))) := rfl
theorem s_L_law_1510 {d : Nat} (L : Nat) (X : Nat → Int32) (hcs : AllS L X d (cs_L_law F_A_act F_A_alias F_A_bed F_A_beds F_A_birthdays F_A_book F_A_boot F_A_box F_A_end F_A_fault F_A_feed F_A_game F_A_goes F_A_hoop F_A_hours F_A_image F_A_keeps F_A_least F_A_letter F_A_loan F_A_look F_A_named F_A_names F_A_net F_A_notes F_A_of F_A_pair F_A_person F_A_persons F_A_says F_A_set F_A_settled F_A_sighted F_A_speakers F_A_state F_A_street F_A_swings F_A_text F_A_undo F_A_vote F_A_who F_R_act F_R_alias F_R_bed F_R_beds F_R_birthdays F_R_book F_R_boot F_R_box F_R_end F_R_fault F_R_feed F_R_game F_R_goes F_R_hoop F_R_hours F_R_image F_R_keeps F_R_least F_R_letter F_R_loan F_R_look F_R_named F_R_names F_R_net F_R_notes F_R_of F_R_pair F_R_person F_R_persons F_R_says F_R_set F_R_settled F_R_sighted F_R_speakers F_R_state F_R_street F_R_swings F_R_text F_R_undo F_R_vote F_R_who)) (x3 : Int32) {o : Option Value × PH} {Q : ((Int32) ⊕ (Int32)) → MI → Prop} (qb : ∀ y I, Q (.inl y) I → At L X (d + 1) 331 18 [(9997, .ref 1000000), (111, .ref 0), (112, .ref 207), (0, .int y)] [] I o) (qr : ∀ v I, Q (.inr v) I → o = (some (.int v), HH I)) (I : MI) (r : (Int32) ⊕ (Int32)) (I1 : MI) (h : K_L_law_1510 L X x3 I = some (r, I1)) (hq : Q r I1) : At L X (d + 1) 331 1510 [(9997, .ref 1000000), (111, .ref 0), (112, .ref 207), (0, .int x3)] [] I o := by
  refine wf_ok z_L_law hcs ?_ ?_ _ _ _ _ _ ⟨rfl, rfl, rfl, trivial, trivial⟩ trivial (unm_refl _ _) ((congrFun (e_s_L_law_1510 (L := L) (X := X) F_A_act F_A_alias F_A_bed F_A_beds F_A_birthdays F_A_book F_A_boot F_A_box F_A_end F_A_fault F_A_feed F_A_game F_A_goes F_A_hoop F_A_hours F_A_image F_A_keeps F_A_least F_A_letter F_A_loan F_A_look F_A_named F_A_names F_A_net F_A_notes F_A_of F_A_pair F_A_person F_A_persons F_A_says F_A_set F_A_settled F_A_sighted F_A_speakers F_A_state F_A_street F_A_swings F_A_text F_A_undo F_A_vote F_A_who F_R_act F_R_alias F_R_bed F_R_beds F_R_birthdays F_R_book F_R_boot F_R_box F_R_end F_R_fault F_R_feed F_R_game F_R_goes F_R_hoop F_R_hours F_R_image F_R_keeps F_R_least F_R_letter F_R_loan F_R_look F_R_named F_R_names F_R_net F_R_notes F_R_of F_R_pair F_R_person F_R_persons F_R_says F_R_set F_R_settled F_R_sighted F_R_speakers F_R_state F_R_street F_R_swings F_R_text F_R_undo F_R_vote F_R_who (K_L_law_1533 L X) x3) I).trans h)
  · intro pc ls st I2 h1 h2 h3 h
    rcases mC_ok h with ⟨hb, h⟩ | ⟨_, h⟩
    · have e := Nat.eq_of_beq_eq_true hb
      subst e
      obtain ⟨hst, h⟩ := mN_ok h
      subst hst
      refine at_leaf (ls2 := [(9997, .ref 1000000), (111, .ref 0), (112, .ref 207), (0, .int x3)]) h3.1 ⟨Or.inr ⟨_, (h3.2 0 rfl).trans rfl⟩, Or.inr ⟨_, (h3.2 1 rfl).trans rfl⟩, Or.inr ⟨_, (h3.2 2 rfl).trans rfl⟩, Or.inr ⟨_, (h3.2 3 rfl).trans rfl⟩, trivial⟩ ?_
      exact s_L_law_1533 L X hcs x3 qb qr _ _ _ h hq
    cases h
  · intro v I2 _ h
    split at h
    · cases h; exact qr _ _ hq
    · cases h
def B_L_law_18 (L : Nat) (X : Nat → Int32) (y : Int32) : M ((Int32) ⊕ (Int32)) :=
  (if ((Int32.ofNat L) - (6 : Int32)) < y then
    bn (gdZ (1 : Int32)) fun _ => rt (.inr (1 : Int32))
  else
    bn (gd (inR y L)) fun _ =>
    (if ((X (y).toNatClampNeg) &&& (63 : Int32)) = (0 : Int32) then
      K_L_law_212 L X y
    else (if ((X (y).toNatClampNeg) &&& (63 : Int32)) = (1 : Int32) then
      K_L_law_235 L X y
    else (if ((X (y).toNatClampNeg) &&& (63 : Int32)) = (2 : Int32) then
      K_L_law_268 L X y
    else (if ((X (y).toNatClampNeg) &&& (63 : Int32)) = (3 : Int32) then
      K_L_law_311 L X y
    else (if ((X (y).toNatClampNeg) &&& (63 : Int32)) = (4 : Int32) then
      K_L_law_354 L X y
    else (if ((X (y).toNatClampNeg) &&& (63 : Int32)) = (5 : Int32) then
      K_L_law_397 L X y
    else (if ((X (y).toNatClampNeg) &&& (63 : Int32)) = (6 : Int32) then
      K_L_law_420 L X y
    else (if ((X (y).toNatClampNeg) &&& (63 : Int32)) = (7 : Int32) then
      K_L_law_483 L X y
    else (if ((X (y).toNatClampNeg) &&& (63 : Int32)) = (8 : Int32) then
      K_L_law_506 L X y
    else (if ((X (y).toNatClampNeg) &&& (63 : Int32)) = (9 : Int32) then
      K_L_law_529 L X y
    else (if ((X (y).toNatClampNeg) &&& (63 : Int32)) = (10 : Int32) then
      K_L_law_552 L X y
    else (if ((X (y).toNatClampNeg) &&& (63 : Int32)) = (11 : Int32) then
      K_L_law_585 L X y
    else (if ((X (y).toNatClampNeg) &&& (63 : Int32)) = (12 : Int32) then
      K_L_law_618 L X y
    else (if ((X (y).toNatClampNeg) &&& (63 : Int32)) = (13 : Int32) then
      K_L_law_651 L X y
    else (if ((X (y).toNatClampNeg) &&& (63 : Int32)) = (14 : Int32) then
      K_L_law_684 L X y
    else (if ((X (y).toNatClampNeg) &&& (63 : Int32)) = (15 : Int32) then
      K_L_law_717 L X y
    else (if ((X (y).toNatClampNeg) &&& (63 : Int32)) = (16 : Int32) then
      K_L_law_740 L X y
    else (if ((X (y).toNatClampNeg) &&& (63 : Int32)) = (17 : Int32) then
      K_L_law_773 L X y
    else (if ((X (y).toNatClampNeg) &&& (63 : Int32)) = (18 : Int32) then
      K_L_law_806 L X y
    else (if ((X (y).toNatClampNeg) &&& (63 : Int32)) = (19 : Int32) then
      K_L_law_865 L X y
    else (if ((X (y).toNatClampNeg) &&& (63 : Int32)) = (20 : Int32) then
      K_L_law_888 L X y
    else (if ((X (y).toNatClampNeg) &&& (63 : Int32)) = (21 : Int32) then
      K_L_law_947 L X y
    else (if ((X (y).toNatClampNeg) &&& (63 : Int32)) = (22 : Int32) then
      K_L_law_970 L X y
    else (if ((X (y).toNatClampNeg) &&& (63 : Int32)) = (23 : Int32) then
      K_L_law_993 L X y
    else (if ((X (y).toNatClampNeg) &&& (63 : Int32)) = (24 : Int32) then
      K_L_law_1026 L X y
    else (if ((X (y).toNatClampNeg) &&& (63 : Int32)) = (25 : Int32) then
      K_L_law_1049 L X y
    else (if ((X (y).toNatClampNeg) &&& (63 : Int32)) = (26 : Int32) then
      K_L_law_1092 L X y
    else (if ((X (y).toNatClampNeg) &&& (63 : Int32)) = (27 : Int32) then
      K_L_law_1125 L X y
    else (if ((X (y).toNatClampNeg) &&& (63 : Int32)) = (28 : Int32) then
      K_L_law_1148 L X y
    else (if ((X (y).toNatClampNeg) &&& (63 : Int32)) = (29 : Int32) then
      K_L_law_1171 L X y
    else (if ((X (y).toNatClampNeg) &&& (63 : Int32)) = (30 : Int32) then
      K_L_law_1204 L X y
    else (if ((X (y).toNatClampNeg) &&& (63 : Int32)) = (31 : Int32) then
      K_L_law_1227 L X y
    else (if ((X (y).toNatClampNeg) &&& (63 : Int32)) = (32 : Int32) then
      K_L_law_1250 L X y
    else (if ((X (y).toNatClampNeg) &&& (63 : Int32)) = (33 : Int32) then
      K_L_law_1273 L X y
    else (if ((X (y).toNatClampNeg) &&& (63 : Int32)) = (34 : Int32) then
      K_L_law_1306 L X y
    else (if ((X (y).toNatClampNeg) &&& (63 : Int32)) = (35 : Int32) then
      K_L_law_1349 L X y
    else (if ((X (y).toNatClampNeg) &&& (63 : Int32)) = (36 : Int32) then
      K_L_law_1392 L X y
    else (if ((X (y).toNatClampNeg) &&& (63 : Int32)) = (37 : Int32) then
      K_L_law_1415 L X y
    else (if ((X (y).toNatClampNeg) &&& (63 : Int32)) = (38 : Int32) then
      K_L_law_1458 L X y
    else (if ((X (y).toNatClampNeg) &&& (63 : Int32)) = (39 : Int32) then
      K_L_law_1471 L X y
    else (if ((X (y).toNatClampNeg) &&& (63 : Int32)) = (40 : Int32) then
      K_L_law_1510 L X y
    else K_L_law_1533 L X y))))))))))))))))))))))))))))))))))))))))))
set_option maxRecDepth 4000 in
theorem e_b_L_law_18 (f_A_act : Int32 → Int32 → Int32 → M Int32) (f_A_alias : Int32 → Int32 → Int32 → M Int32) (f_A_bed : Int32 → Int32 → M Int32) (f_A_beds : Int32 → M Int32) (f_A_birthdays : Int32 → Int32 → Int32 → M Int32) (f_A_book : Int32 → Int32 → M Int32) (f_A_boot : Int32 → M Int32) (f_A_box : Int32 → M Int32) (f_A_end : Int32 → M Int32) (f_A_fault : Int32 → M Int32) (f_A_feed : Int32 → Int32 → Int32 → Int32 → Int32 → M Int32) (f_A_game : Int32 → Int32 → Int32 → M Int32) (f_A_goes : Int32 → Int32 → M Int32) (f_A_hoop : Int32 → Int32 → Int32 → M Int32) (f_A_hours : Int32 → M Int32) (f_A_image : Int32 → M Int32) (f_A_keeps : Int32 → M Int32) (f_A_least : Int32 → M Int32) (f_A_letter : Int32 → Int32 → M Int32) (f_A_loan : Int32 → Int32 → Int32 → M Int32) (f_A_look : Int32 → M Int32) (f_A_named : Int32 → M Int32) (f_A_names : Int32 → M Int32) (f_A_net : Int32 → Int32 → M Int32) (f_A_notes : Int32 → M Int32) (f_A_of : Int32 → Int32 → M Int32) (f_A_pair : Int32 → Int32 → Int32 → M Int32) (f_A_person : Int32 → Int32 → M Int32) (f_A_persons : Int32 → Int32 → M Int32) (f_A_says : Int32 → Int32 → Int32 → M Int32) (f_A_set : Int32 → Int32 → Int32 → M Int32) (f_A_settled : Int32 → M Int32) (f_A_sighted : Int32 → Int32 → M Int32) (f_A_speakers : Int32 → M Int32) (f_A_state : Int32 → M Int32) (f_A_street : Int32 → Int32 → M Int32) (f_A_swings : Int32 → Int32 → M Int32) (f_A_text : Int32 → M Int32) (f_A_undo : M Int32) (f_A_vote : Int32 → M Int32) (f_A_who : Int32 → Int32 → M Int32) (f_R_act : Int32 → Int32 → Int32 → M Int32) (f_R_alias : Int32 → Int32 → Int32 → M Int32) (f_R_bed : Int32 → Int32 → M Int32) (f_R_beds : Int32 → M Int32) (f_R_birthdays : Int32 → Int32 → Int32 → M Int32) (f_R_book : Int32 → Int32 → M Int32) (f_R_boot : Int32 → M Int32) (f_R_box : Int32 → M Int32) (f_R_end : Int32 → M Int32) (f_R_fault : Int32 → M Int32) (f_R_feed : Int32 → Int32 → Int32 → Int32 → Int32 → M Int32) (f_R_game : Int32 → Int32 → Int32 → M Int32) (f_R_goes : Int32 → Int32 → M Int32) (f_R_hoop : Int32 → Int32 → Int32 → M Int32) (f_R_hours : Int32 → M Int32) (f_R_image : Int32 → M Int32) (f_R_keeps : Int32 → M Int32) (f_R_least : Int32 → M Int32) (f_R_letter : Int32 → Int32 → M Int32) (f_R_loan : Int32 → Int32 → Int32 → M Int32) (f_R_look : Int32 → M Int32) (f_R_named : Int32 → M Int32) (f_R_names : Int32 → M Int32) (f_R_net : Int32 → Int32 → M Int32) (f_R_notes : Int32 → M Int32) (f_R_of : Int32 → Int32 → M Int32) (f_R_pair : Int32 → Int32 → Int32 → M Int32) (f_R_person : Int32 → Int32 → M Int32) (f_R_persons : Int32 → Int32 → M Int32) (f_R_says : Int32 → Int32 → Int32 → M Int32) (f_R_set : Int32 → Int32 → Int32 → M Int32) (f_R_settled : Int32 → M Int32) (f_R_sighted : Int32 → Int32 → M Int32) (f_R_speakers : Int32 → M Int32) (f_R_state : Int32 → M Int32) (f_R_street : Int32 → Int32 → M Int32) (f_R_swings : Int32 → Int32 → M Int32) (f_R_text : Int32 → M Int32) (f_R_undo : M Int32) (f_R_vote : Int32 → M Int32) (f_R_who : Int32 → Int32 → M Int32) (k_212 : Int32 → M ((Int32) ⊕ (Int32))) (k_235 : Int32 → M ((Int32) ⊕ (Int32))) (k_268 : Int32 → M ((Int32) ⊕ (Int32))) (k_311 : Int32 → M ((Int32) ⊕ (Int32))) (k_354 : Int32 → M ((Int32) ⊕ (Int32))) (k_397 : Int32 → M ((Int32) ⊕ (Int32))) (k_420 : Int32 → M ((Int32) ⊕ (Int32))) (k_483 : Int32 → M ((Int32) ⊕ (Int32))) (k_506 : Int32 → M ((Int32) ⊕ (Int32))) (k_529 : Int32 → M ((Int32) ⊕ (Int32))) (k_552 : Int32 → M ((Int32) ⊕ (Int32))) (k_585 : Int32 → M ((Int32) ⊕ (Int32))) (k_618 : Int32 → M ((Int32) ⊕ (Int32))) (k_651 : Int32 → M ((Int32) ⊕ (Int32))) (k_684 : Int32 → M ((Int32) ⊕ (Int32))) (k_717 : Int32 → M ((Int32) ⊕ (Int32))) (k_740 : Int32 → M ((Int32) ⊕ (Int32))) (k_773 : Int32 → M ((Int32) ⊕ (Int32))) (k_806 : Int32 → M ((Int32) ⊕ (Int32))) (k_865 : Int32 → M ((Int32) ⊕ (Int32))) (k_888 : Int32 → M ((Int32) ⊕ (Int32))) (k_947 : Int32 → M ((Int32) ⊕ (Int32))) (k_970 : Int32 → M ((Int32) ⊕ (Int32))) (k_993 : Int32 → M ((Int32) ⊕ (Int32))) (k_1026 : Int32 → M ((Int32) ⊕ (Int32))) (k_1049 : Int32 → M ((Int32) ⊕ (Int32))) (k_1092 : Int32 → M ((Int32) ⊕ (Int32))) (k_1125 : Int32 → M ((Int32) ⊕ (Int32))) (k_1148 : Int32 → M ((Int32) ⊕ (Int32))) (k_1171 : Int32 → M ((Int32) ⊕ (Int32))) (k_1204 : Int32 → M ((Int32) ⊕ (Int32))) (k_1227 : Int32 → M ((Int32) ⊕ (Int32))) (k_1250 : Int32 → M ((Int32) ⊕ (Int32))) (k_1273 : Int32 → M ((Int32) ⊕ (Int32))) (k_1306 : Int32 → M ((Int32) ⊕ (Int32))) (k_1349 : Int32 → M ((Int32) ⊕ (Int32))) (k_1392 : Int32 → M ((Int32) ⊕ (Int32))) (k_1415 : Int32 → M ((Int32) ⊕ (Int32))) (k_1458 : Int32 → M ((Int32) ⊕ (Int32))) (k_1471 : Int32 → M ((Int32) ⊕ (Int32))) (k_1510 : Int32 → M ((Int32) ⊕ (Int32))) (k_1533 : Int32 → M ((Int32) ⊕ (Int32))) (y : Int32) : wf (β := (Int32) ⊕ (Int32)) L X q_L_law 2 (cs_L_law f_A_act f_A_alias f_A_bed f_A_beds f_A_birthdays f_A_book f_A_boot f_A_box f_A_end f_A_fault f_A_feed f_A_game f_A_goes f_A_hoop f_A_hours f_A_image f_A_keeps f_A_least f_A_letter f_A_loan f_A_look f_A_named f_A_names f_A_net f_A_notes f_A_of f_A_pair f_A_person f_A_persons f_A_says f_A_set f_A_settled f_A_sighted f_A_speakers f_A_state f_A_street f_A_swings f_A_text f_A_undo f_A_vote f_A_who f_R_act f_R_alias f_R_bed f_R_beds f_R_birthdays f_R_book f_R_boot f_R_box f_R_end f_R_fault f_R_feed f_R_game f_R_goes f_R_hoop f_R_hours f_R_image f_R_keeps f_R_least f_R_letter f_R_loan f_R_look f_R_named f_R_names f_R_net f_R_notes f_R_of f_R_pair f_R_person f_R_persons f_R_says f_R_set f_R_settled f_R_sighted f_R_speakers f_R_state f_R_street f_R_swings f_R_text f_R_undo f_R_vote f_R_who) [] [18, 212, 235, 268, 311, 354, 397, 420, 483, 506, 529, 552, 585, 618, 651, 684, 717, 740, 773, 806, 865, 888, 947, 970, 993, 1026, 1049, 1092, 1125, 1148, 1171, 1204, 1227, 1250, 1273, 1306, 1349, 1392, 1415, 1458, 1471, 1510, 1533] (fun pc ls st => mC (Nat.beq pc 212) (mN st <| k_212 y) (mC (Nat.beq pc 235) (mN st <| k_235 y) (mC (Nat.beq pc 268) (mN st <| k_268 y) (mC (Nat.beq pc 311) (mN st <| k_311 y) (mC (Nat.beq pc 354) (mN st <| k_354 y) (mC (Nat.beq pc 397) (mN st <| k_397 y) (mC (Nat.beq pc 420) (mN st <| k_420 y) (mC (Nat.beq pc 483) (mN st <| k_483 y) (mC (Nat.beq pc 506) (mN st <| k_506 y) (mC (Nat.beq pc 529) (mN st <| k_529 y) (mC (Nat.beq pc 552) (mN st <| k_552 y) (mC (Nat.beq pc 585) (mN st <| k_585 y) (mC (Nat.beq pc 618) (mN st <| k_618 y) (mC (Nat.beq pc 651) (mN st <| k_651 y) (mC (Nat.beq pc 684) (mN st <| k_684 y) (mC (Nat.beq pc 717) (mN st <| k_717 y) (mC (Nat.beq pc 740) (mN st <| k_740 y) (mC (Nat.beq pc 773) (mN st <| k_773 y) (mC (Nat.beq pc 806) (mN st <| k_806 y) (mC (Nat.beq pc 865) (mN st <| k_865 y) (mC (Nat.beq pc 888) (mN st <| k_888 y) (mC (Nat.beq pc 947) (mN st <| k_947 y) (mC (Nat.beq pc 970) (mN st <| k_970 y) (mC (Nat.beq pc 993) (mN st <| k_993 y) (mC (Nat.beq pc 1026) (mN st <| k_1026 y) (mC (Nat.beq pc 1049) (mN st <| k_1049 y) (mC (Nat.beq pc 1092) (mN st <| k_1092 y) (mC (Nat.beq pc 1125) (mN st <| k_1125 y) (mC (Nat.beq pc 1148) (mN st <| k_1148 y) (mC (Nat.beq pc 1171) (mN st <| k_1171 y) (mC (Nat.beq pc 1204) (mN st <| k_1204 y) (mC (Nat.beq pc 1227) (mN st <| k_1227 y) (mC (Nat.beq pc 1250) (mN st <| k_1250 y) (mC (Nat.beq pc 1273) (mN st <| k_1273 y) (mC (Nat.beq pc 1306) (mN st <| k_1306 y) (mC (Nat.beq pc 1349) (mN st <| k_1349 y) (mC (Nat.beq pc 1392) (mN st <| k_1392 y) (mC (Nat.beq pc 1415) (mN st <| k_1415 y) (mC (Nat.beq pc 1458) (mN st <| k_1458 y) (mC (Nat.beq pc 1471) (mN st <| k_1471 y) (mC (Nat.beq pc 1510) (mN st <| k_1510 y) (mC (Nat.beq pc 1533) (mN st <| k_1533 y) (fl))))))))))))))))))))))))))))))))))))))))))) (fun v => match v with | some (_, .int x) => rt (.inr x) | _ => fl) 1072 18 [(9997, .ref 1000000), (111, .ref 0), (112, .ref 207), (0, .int y)] [] = ((if ((Int32.ofNat L) - (6 : Int32)) < y then
    bn (gdZ (1 : Int32)) fun _ => rt (.inr (1 : Int32))
  else
    bn (gd (inR y L)) fun _ =>
    (if ((X (y).toNatClampNeg) &&& (63 : Int32)) = (0 : Int32) then
      k_212 y
    else (if ((X (y).toNatClampNeg) &&& (63 : Int32)) = (1 : Int32) then
      k_235 y
    else (if ((X (y).toNatClampNeg) &&& (63 : Int32)) = (2 : Int32) then
      k_268 y
    else (if ((X (y).toNatClampNeg) &&& (63 : Int32)) = (3 : Int32) then
      k_311 y
    else (if ((X (y).toNatClampNeg) &&& (63 : Int32)) = (4 : Int32) then
      k_354 y
    else (if ((X (y).toNatClampNeg) &&& (63 : Int32)) = (5 : Int32) then
      k_397 y
    else (if ((X (y).toNatClampNeg) &&& (63 : Int32)) = (6 : Int32) then
      k_420 y
    else (if ((X (y).toNatClampNeg) &&& (63 : Int32)) = (7 : Int32) then
      k_483 y
    else (if ((X (y).toNatClampNeg) &&& (63 : Int32)) = (8 : Int32) then
      k_506 y
    else (if ((X (y).toNatClampNeg) &&& (63 : Int32)) = (9 : Int32) then
      k_529 y
    else (if ((X (y).toNatClampNeg) &&& (63 : Int32)) = (10 : Int32) then
      k_552 y
    else (if ((X (y).toNatClampNeg) &&& (63 : Int32)) = (11 : Int32) then
      k_585 y
    else (if ((X (y).toNatClampNeg) &&& (63 : Int32)) = (12 : Int32) then
      k_618 y
    else (if ((X (y).toNatClampNeg) &&& (63 : Int32)) = (13 : Int32) then
      k_651 y
    else (if ((X (y).toNatClampNeg) &&& (63 : Int32)) = (14 : Int32) then
      k_684 y
    else (if ((X (y).toNatClampNeg) &&& (63 : Int32)) = (15 : Int32) then
      k_717 y
    else (if ((X (y).toNatClampNeg) &&& (63 : Int32)) = (16 : Int32) then
      k_740 y
    else (if ((X (y).toNatClampNeg) &&& (63 : Int32)) = (17 : Int32) then
      k_773 y
    else (if ((X (y).toNatClampNeg) &&& (63 : Int32)) = (18 : Int32) then
      k_806 y
    else (if ((X (y).toNatClampNeg) &&& (63 : Int32)) = (19 : Int32) then
      k_865 y
    else (if ((X (y).toNatClampNeg) &&& (63 : Int32)) = (20 : Int32) then
      k_888 y
    else (if ((X (y).toNatClampNeg) &&& (63 : Int32)) = (21 : Int32) then
      k_947 y
    else (if ((X (y).toNatClampNeg) &&& (63 : Int32)) = (22 : Int32) then
      k_970 y
    else (if ((X (y).toNatClampNeg) &&& (63 : Int32)) = (23 : Int32) then
      k_993 y
    else (if ((X (y).toNatClampNeg) &&& (63 : Int32)) = (24 : Int32) then
      k_1026 y
    else (if ((X (y).toNatClampNeg) &&& (63 : Int32)) = (25 : Int32) then
      k_1049 y
    else (if ((X (y).toNatClampNeg) &&& (63 : Int32)) = (26 : Int32) then
      k_1092 y
    else (if ((X (y).toNatClampNeg) &&& (63 : Int32)) = (27 : Int32) then
      k_1125 y
    else (if ((X (y).toNatClampNeg) &&& (63 : Int32)) = (28 : Int32) then
      k_1148 y
    else (if ((X (y).toNatClampNeg) &&& (63 : Int32)) = (29 : Int32) then
      k_1171 y
    else (if ((X (y).toNatClampNeg) &&& (63 : Int32)) = (30 : Int32) then
      k_1204 y
    else (if ((X (y).toNatClampNeg) &&& (63 : Int32)) = (31 : Int32) then
      k_1227 y
    else (if ((X (y).toNatClampNeg) &&& (63 : Int32)) = (32 : Int32) then
      k_1250 y
    else (if ((X (y).toNatClampNeg) &&& (63 : Int32)) = (33 : Int32) then
      k_1273 y
    else (if ((X (y).toNatClampNeg) &&& (63 : Int32)) = (34 : Int32) then
      k_1306 y
    else (if ((X (y).toNatClampNeg) &&& (63 : Int32)) = (35 : Int32) then
      k_1349 y
    else (if ((X (y).toNatClampNeg) &&& (63 : Int32)) = (36 : Int32) then
      k_1392 y
    else (if ((X (y).toNatClampNeg) &&& (63 : Int32)) = (37 : Int32) then
      k_1415 y
    else (if ((X (y).toNatClampNeg) &&& (63 : Int32)) = (38 : Int32) then
      k_1458 y
    else (if ((X (y).toNatClampNeg) &&& (63 : Int32)) = (39 : Int32) then
      k_1471 y
    else (if ((X (y).toNatClampNeg) &&& (63 : Int32)) = (40 : Int32) then
      k_1510 y
    else k_1533 y))))))))))))))))))))))))))))))))))))))))))) := rfl
theorem b_L_law_18 {d : Nat} (L : Nat) (X : Nat → Int32) (hcs : AllS L X d (cs_L_law F_A_act F_A_alias F_A_bed F_A_beds F_A_birthdays F_A_book F_A_boot F_A_box F_A_end F_A_fault F_A_feed F_A_game F_A_goes F_A_hoop F_A_hours F_A_image F_A_keeps F_A_least F_A_letter F_A_loan F_A_look F_A_named F_A_names F_A_net F_A_notes F_A_of F_A_pair F_A_person F_A_persons F_A_says F_A_set F_A_settled F_A_sighted F_A_speakers F_A_state F_A_street F_A_swings F_A_text F_A_undo F_A_vote F_A_who F_R_act F_R_alias F_R_bed F_R_beds F_R_birthdays F_R_book F_R_boot F_R_box F_R_end F_R_fault F_R_feed F_R_game F_R_goes F_R_hoop F_R_hours F_R_image F_R_keeps F_R_least F_R_letter F_R_loan F_R_look F_R_named F_R_names F_R_net F_R_notes F_R_of F_R_pair F_R_person F_R_persons F_R_says F_R_set F_R_settled F_R_sighted F_R_speakers F_R_state F_R_street F_R_swings F_R_text F_R_undo F_R_vote F_R_who)) {o : Option Value × PH} {Q : ((Int32) ⊕ (Int32)) → MI → Prop} (qb : ∀ y I, Q (.inl y) I → At L X (d + 1) 331 18 [(9997, .ref 1000000), (111, .ref 0), (112, .ref 207), (0, .int y)] [] I o) (qr : ∀ v I, Q (.inr v) I → o = (some (.int v), HH I)) (y : Int32) (I : MI) (r : (Int32) ⊕ (Int32)) (I1 : MI) (h : B_L_law_18 L X y I = some (r, I1)) (hq : Q r I1) : At L X (d + 1) 331 18 [(9997, .ref 1000000), (111, .ref 0), (112, .ref 207), (0, .int y)] [] I o := by
  refine wf_ok z_L_law hcs ?_ ?_ _ _ _ _ _ ⟨rfl, rfl, rfl, trivial, trivial⟩ trivial (unm_refl _ _) ((congrFun (e_b_L_law_18 (L := L) (X := X) F_A_act F_A_alias F_A_bed F_A_beds F_A_birthdays F_A_book F_A_boot F_A_box F_A_end F_A_fault F_A_feed F_A_game F_A_goes F_A_hoop F_A_hours F_A_image F_A_keeps F_A_least F_A_letter F_A_loan F_A_look F_A_named F_A_names F_A_net F_A_notes F_A_of F_A_pair F_A_person F_A_persons F_A_says F_A_set F_A_settled F_A_sighted F_A_speakers F_A_state F_A_street F_A_swings F_A_text F_A_undo F_A_vote F_A_who F_R_act F_R_alias F_R_bed F_R_beds F_R_birthdays F_R_book F_R_boot F_R_box F_R_end F_R_fault F_R_feed F_R_game F_R_goes F_R_hoop F_R_hours F_R_image F_R_keeps F_R_least F_R_letter F_R_loan F_R_look F_R_named F_R_names F_R_net F_R_notes F_R_of F_R_pair F_R_person F_R_persons F_R_says F_R_set F_R_settled F_R_sighted F_R_speakers F_R_state F_R_street F_R_swings F_R_text F_R_undo F_R_vote F_R_who (K_L_law_212 L X) (K_L_law_235 L X) (K_L_law_268 L X) (K_L_law_311 L X) (K_L_law_354 L X) (K_L_law_397 L X) (K_L_law_420 L X) (K_L_law_483 L X) (K_L_law_506 L X) (K_L_law_529 L X) (K_L_law_552 L X) (K_L_law_585 L X) (K_L_law_618 L X) (K_L_law_651 L X) (K_L_law_684 L X) (K_L_law_717 L X) (K_L_law_740 L X) (K_L_law_773 L X) (K_L_law_806 L X) (K_L_law_865 L X) (K_L_law_888 L X) (K_L_law_947 L X) (K_L_law_970 L X) (K_L_law_993 L X) (K_L_law_1026 L X) (K_L_law_1049 L X) (K_L_law_1092 L X) (K_L_law_1125 L X) (K_L_law_1148 L X) (K_L_law_1171 L X) (K_L_law_1204 L X) (K_L_law_1227 L X) (K_L_law_1250 L X) (K_L_law_1273 L X) (K_L_law_1306 L X) (K_L_law_1349 L X) (K_L_law_1392 L X) (K_L_law_1415 L X) (K_L_law_1458 L X) (K_L_law_1471 L X) (K_L_law_1510 L X) (K_L_law_1533 L X) y) I).trans h)
  · intro pc ls st I2 h1 h2 h3 h
    rcases mC_ok h with ⟨hb, h⟩ | ⟨_, h⟩
    · have e := Nat.eq_of_beq_eq_true hb
      subst e
      obtain ⟨hst, h⟩ := mN_ok h
      subst hst
      refine at_leaf (ls2 := [(9997, .ref 1000000), (111, .ref 0), (112, .ref 207), (0, .int y)]) h3.1 ⟨Or.inr ⟨_, (h3.2 0 rfl).trans rfl⟩, Or.inr ⟨_, (h3.2 1 rfl).trans rfl⟩, Or.inr ⟨_, (h3.2 2 rfl).trans rfl⟩, Or.inr ⟨_, (h3.2 3 rfl).trans rfl⟩, trivial⟩ ?_
      exact s_L_law_212 L X hcs y qb qr _ _ _ h hq
    rcases mC_ok h with ⟨hb, h⟩ | ⟨_, h⟩
    · have e := Nat.eq_of_beq_eq_true hb
      subst e
      obtain ⟨hst, h⟩ := mN_ok h
      subst hst
      refine at_leaf (ls2 := [(9997, .ref 1000000), (111, .ref 0), (112, .ref 207), (0, .int y)]) h3.1 ⟨Or.inr ⟨_, (h3.2 0 rfl).trans rfl⟩, Or.inr ⟨_, (h3.2 1 rfl).trans rfl⟩, Or.inr ⟨_, (h3.2 2 rfl).trans rfl⟩, Or.inr ⟨_, (h3.2 3 rfl).trans rfl⟩, trivial⟩ ?_
      exact s_L_law_235 L X hcs y qb qr _ _ _ h hq
    rcases mC_ok h with ⟨hb, h⟩ | ⟨_, h⟩
    · have e := Nat.eq_of_beq_eq_true hb
      subst e
      obtain ⟨hst, h⟩ := mN_ok h
      subst hst
      refine at_leaf (ls2 := [(9997, .ref 1000000), (111, .ref 0), (112, .ref 207), (0, .int y)]) h3.1 ⟨Or.inr ⟨_, (h3.2 0 rfl).trans rfl⟩, Or.inr ⟨_, (h3.2 1 rfl).trans rfl⟩, Or.inr ⟨_, (h3.2 2 rfl).trans rfl⟩, Or.inr ⟨_, (h3.2 3 rfl).trans rfl⟩, trivial⟩ ?_
      exact s_L_law_268 L X hcs y qb qr _ _ _ h hq
    rcases mC_ok h with ⟨hb, h⟩ | ⟨_, h⟩
    · have e := Nat.eq_of_beq_eq_true hb
      subst e
      obtain ⟨hst, h⟩ := mN_ok h
      subst hst
      refine at_leaf (ls2 := [(9997, .ref 1000000), (111, .ref 0), (112, .ref 207), (0, .int y)]) h3.1 ⟨Or.inr ⟨_, (h3.2 0 rfl).trans rfl⟩, Or.inr ⟨_, (h3.2 1 rfl).trans rfl⟩, Or.inr ⟨_, (h3.2 2 rfl).trans rfl⟩, Or.inr ⟨_, (h3.2 3 rfl).trans rfl⟩, trivial⟩ ?_
      exact s_L_law_311 L X hcs y qb qr _ _ _ h hq
    rcases mC_ok h with ⟨hb, h⟩ | ⟨_, h⟩
    · have e := Nat.eq_of_beq_eq_true hb
      subst e
      obtain ⟨hst, h⟩ := mN_ok h
      subst hst
      refine at_leaf (ls2 := [(9997, .ref 1000000), (111, .ref 0), (112, .ref 207), (0, .int y)]) h3.1 ⟨Or.inr ⟨_, (h3.2 0 rfl).trans rfl⟩, Or.inr ⟨_, (h3.2 1 rfl).trans rfl⟩, Or.inr ⟨_, (h3.2 2 rfl).trans rfl⟩, Or.inr ⟨_, (h3.2 3 rfl).trans rfl⟩, trivial⟩ ?_
      exact s_L_law_354 L X hcs y qb qr _ _ _ h hq
    rcases mC_ok h with ⟨hb, h⟩ | ⟨_, h⟩
    · have e := Nat.eq_of_beq_eq_true hb
      subst e
      obtain ⟨hst, h⟩ := mN_ok h
      subst hst
      refine at_leaf (ls2 := [(9997, .ref 1000000), (111, .ref 0), (112, .ref 207), (0, .int y)]) h3.1 ⟨Or.inr ⟨_, (h3.2 0 rfl).trans rfl⟩, Or.inr ⟨_, (h3.2 1 rfl).trans rfl⟩, Or.inr ⟨_, (h3.2 2 rfl).trans rfl⟩, Or.inr ⟨_, (h3.2 3 rfl).trans rfl⟩, trivial⟩ ?_
      exact s_L_law_397 L X hcs y qb qr _ _ _ h hq
    rcases mC_ok h with ⟨hb, h⟩ | ⟨_, h⟩
    · have e := Nat.eq_of_beq_eq_true hb
      subst e
      obtain ⟨hst, h⟩ := mN_ok h
      subst hst
      refine at_leaf (ls2 := [(9997, .ref 1000000), (111, .ref 0), (112, .ref 207), (0, .int y)]) h3.1 ⟨Or.inr ⟨_, (h3.2 0 rfl).trans rfl⟩, Or.inr ⟨_, (h3.2 1 rfl).trans rfl⟩, Or.inr ⟨_, (h3.2 2 rfl).trans rfl⟩, Or.inr ⟨_, (h3.2 3 rfl).trans rfl⟩, trivial⟩ ?_
      exact s_L_law_420 L X hcs y qb qr _ _ _ h hq
    rcases mC_ok h with ⟨hb, h⟩ | ⟨_, h⟩
    · have e := Nat.eq_of_beq_eq_true hb
      subst e
      obtain ⟨hst, h⟩ := mN_ok h
      subst hst
      refine at_leaf (ls2 := [(9997, .ref 1000000), (111, .ref 0), (112, .ref 207), (0, .int y)]) h3.1 ⟨Or.inr ⟨_, (h3.2 0 rfl).trans rfl⟩, Or.inr ⟨_, (h3.2 1 rfl).trans rfl⟩, Or.inr ⟨_, (h3.2 2 rfl).trans rfl⟩, Or.inr ⟨_, (h3.2 3 rfl).trans rfl⟩, trivial⟩ ?_
      exact s_L_law_483 L X hcs y qb qr _ _ _ h hq
    rcases mC_ok h with ⟨hb, h⟩ | ⟨_, h⟩
    · have e := Nat.eq_of_beq_eq_true hb
      subst e
      obtain ⟨hst, h⟩ := mN_ok h
      subst hst
      refine at_leaf (ls2 := [(9997, .ref 1000000), (111, .ref 0), (112, .ref 207), (0, .int y)]) h3.1 ⟨Or.inr ⟨_, (h3.2 0 rfl).trans rfl⟩, Or.inr ⟨_, (h3.2 1 rfl).trans rfl⟩, Or.inr ⟨_, (h3.2 2 rfl).trans rfl⟩, Or.inr ⟨_, (h3.2 3 rfl).trans rfl⟩, trivial⟩ ?_
      exact s_L_law_506 L X hcs y qb qr _ _ _ h hq
    rcases mC_ok h with ⟨hb, h⟩ | ⟨_, h⟩
    · have e := Nat.eq_of_beq_eq_true hb
      subst e
      obtain ⟨hst, h⟩ := mN_ok h
      subst hst
      refine at_leaf (ls2 := [(9997, .ref 1000000), (111, .ref 0), (112, .ref 207), (0, .int y)]) h3.1 ⟨Or.inr ⟨_, (h3.2 0 rfl).trans rfl⟩, Or.inr ⟨_, (h3.2 1 rfl).trans rfl⟩, Or.inr ⟨_, (h3.2 2 rfl).trans rfl⟩, Or.inr ⟨_, (h3.2 3 rfl).trans rfl⟩, trivial⟩ ?_
      exact s_L_law_529 L X hcs y qb qr _ _ _ h hq
    rcases mC_ok h with ⟨hb, h⟩ | ⟨_, h⟩
    · have e := Nat.eq_of_beq_eq_true hb
      subst e
      obtain ⟨hst, h⟩ := mN_ok h
      subst hst
      refine at_leaf (ls2 := [(9997, .ref 1000000), (111, .ref 0), (112, .ref 207), (0, .int y)]) h3.1 ⟨Or.inr ⟨_, (h3.2 0 rfl).trans rfl⟩, Or.inr ⟨_, (h3.2 1 rfl).trans rfl⟩, Or.inr ⟨_, (h3.2 2 rfl).trans rfl⟩, Or.inr ⟨_, (h3.2 3 rfl).trans rfl⟩, trivial⟩ ?_
      exact s_L_law_552 L X hcs y qb qr _ _ _ h hq
    rcases mC_ok h with ⟨hb, h⟩ | ⟨_, h⟩
    · have e := Nat.eq_of_beq_eq_true hb
      subst e
      obtain ⟨hst, h⟩ := mN_ok h
      subst hst
      refine at_leaf (ls2 := [(9997, .ref 1000000), (111, .ref 0), (112, .ref 207), (0, .int y)]) h3.1 ⟨Or.inr ⟨_, (h3.2 0 rfl).trans rfl⟩, Or.inr ⟨_, (h3.2 1 rfl).trans rfl⟩, Or.inr ⟨_, (h3.2 2 rfl).trans rfl⟩, Or.inr ⟨_, (h3.2 3 rfl).trans rfl⟩, trivial⟩ ?_
      exact s_L_law_585 L X hcs y qb qr _ _ _ h hq
    rcases mC_ok h with ⟨hb, h⟩ | ⟨_, h⟩
    · have e := Nat.eq_of_beq_eq_true hb
      subst e
      obtain ⟨hst, h⟩ := mN_ok h
      subst hst
      refine at_leaf (ls2 := [(9997, .ref 1000000), (111, .ref 0), (112, .ref 207), (0, .int y)]) h3.1 ⟨Or.inr ⟨_, (h3.2 0 rfl).trans rfl⟩, Or.inr ⟨_, (h3.2 1 rfl).trans rfl⟩, Or.inr ⟨_, (h3.2 2 rfl).trans rfl⟩, Or.inr ⟨_, (h3.2 3 rfl).trans rfl⟩, trivial⟩ ?_
      exact s_L_law_618 L X hcs y qb qr _ _ _ h hq
    rcases mC_ok h with ⟨hb, h⟩ | ⟨_, h⟩
    · have e := Nat.eq_of_beq_eq_true hb
      subst e
      obtain ⟨hst, h⟩ := mN_ok h
      subst hst
      refine at_leaf (ls2 := [(9997, .ref 1000000), (111, .ref 0), (112, .ref 207), (0, .int y)]) h3.1 ⟨Or.inr ⟨_, (h3.2 0 rfl).trans rfl⟩, Or.inr ⟨_, (h3.2 1 rfl).trans rfl⟩, Or.inr ⟨_, (h3.2 2 rfl).trans rfl⟩, Or.inr ⟨_, (h3.2 3 rfl).trans rfl⟩, trivial⟩ ?_
      exact s_L_law_651 L X hcs y qb qr _ _ _ h hq
    rcases mC_ok h with ⟨hb, h⟩ | ⟨_, h⟩
    · have e := Nat.eq_of_beq_eq_true hb
      subst e
      obtain ⟨hst, h⟩ := mN_ok h
      subst hst
      refine at_leaf (ls2 := [(9997, .ref 1000000), (111, .ref 0), (112, .ref 207), (0, .int y)]) h3.1 ⟨Or.inr ⟨_, (h3.2 0 rfl).trans rfl⟩, Or.inr ⟨_, (h3.2 1 rfl).trans rfl⟩, Or.inr ⟨_, (h3.2 2 rfl).trans rfl⟩, Or.inr ⟨_, (h3.2 3 rfl).trans rfl⟩, trivial⟩ ?_
      exact s_L_law_684 L X hcs y qb qr _ _ _ h hq
    rcases mC_ok h with ⟨hb, h⟩ | ⟨_, h⟩
    · have e := Nat.eq_of_beq_eq_true hb
      subst e
      obtain ⟨hst, h⟩ := mN_ok h
      subst hst
      refine at_leaf (ls2 := [(9997, .ref 1000000), (111, .ref 0), (112, .ref 207), (0, .int y)]) h3.1 ⟨Or.inr ⟨_, (h3.2 0 rfl).trans rfl⟩, Or.inr ⟨_, (h3.2 1 rfl).trans rfl⟩, Or.inr ⟨_, (h3.2 2 rfl).trans rfl⟩, Or.inr ⟨_, (h3.2 3 rfl).trans rfl⟩, trivial⟩ ?_
      exact s_L_law_717 L X hcs y qb qr _ _ _ h hq
    rcases mC_ok h with ⟨hb, h⟩ | ⟨_, h⟩
    · have e := Nat.eq_of_beq_eq_true hb
      subst e
      obtain ⟨hst, h⟩ := mN_ok h
      subst hst
      refine at_leaf (ls2 := [(9997, .ref 1000000), (111, .ref 0), (112, .ref 207), (0, .int y)]) h3.1 ⟨Or.inr ⟨_, (h3.2 0 rfl).trans rfl⟩, Or.inr ⟨_, (h3.2 1 rfl).trans rfl⟩, Or.inr ⟨_, (h3.2 2 rfl).trans rfl⟩, Or.inr ⟨_, (h3.2 3 rfl).trans rfl⟩, trivial⟩ ?_
      exact s_L_law_740 L X hcs y qb qr _ _ _ h hq
    rcases mC_ok h with ⟨hb, h⟩ | ⟨_, h⟩
    · have e := Nat.eq_of_beq_eq_true hb
      subst e
      obtain ⟨hst, h⟩ := mN_ok h
      subst hst
      refine at_leaf (ls2 := [(9997, .ref 1000000), (111, .ref 0), (112, .ref 207), (0, .int y)]) h3.1 ⟨Or.inr ⟨_, (h3.2 0 rfl).trans rfl⟩, Or.inr ⟨_, (h3.2 1 rfl).trans rfl⟩, Or.inr ⟨_, (h3.2 2 rfl).trans rfl⟩, Or.inr ⟨_, (h3.2 3 rfl).trans rfl⟩, trivial⟩ ?_
      exact s_L_law_773 L X hcs y qb qr _ _ _ h hq
    rcases mC_ok h with ⟨hb, h⟩ | ⟨_, h⟩
    · have e := Nat.eq_of_beq_eq_true hb
      subst e
      obtain ⟨hst, h⟩ := mN_ok h
      subst hst
      refine at_leaf (ls2 := [(9997, .ref 1000000), (111, .ref 0), (112, .ref 207), (0, .int y)]) h3.1 ⟨Or.inr ⟨_, (h3.2 0 rfl).trans rfl⟩, Or.inr ⟨_, (h3.2 1 rfl).trans rfl⟩, Or.inr ⟨_, (h3.2 2 rfl).trans rfl⟩, Or.inr ⟨_, (h3.2 3 rfl).trans rfl⟩, trivial⟩ ?_
      exact s_L_law_806 L X hcs y qb qr _ _ _ h hq
    rcases mC_ok h with ⟨hb, h⟩ | ⟨_, h⟩
    · have e := Nat.eq_of_beq_eq_true hb
      subst e
      obtain ⟨hst, h⟩ := mN_ok h
      subst hst
      refine at_leaf (ls2 := [(9997, .ref 1000000), (111, .ref 0), (112, .ref 207), (0, .int y)]) h3.1 ⟨Or.inr ⟨_, (h3.2 0 rfl).trans rfl⟩, Or.inr ⟨_, (h3.2 1 rfl).trans rfl⟩, Or.inr ⟨_, (h3.2 2 rfl).trans rfl⟩, Or.inr ⟨_, (h3.2 3 rfl).trans rfl⟩, trivial⟩ ?_
      exact s_L_law_865 L X hcs y qb qr _ _ _ h hq
    rcases mC_ok h with ⟨hb, h⟩ | ⟨_, h⟩
    · have e := Nat.eq_of_beq_eq_true hb
      subst e
      obtain ⟨hst, h⟩ := mN_ok h
      subst hst
      refine at_leaf (ls2 := [(9997, .ref 1000000), (111, .ref 0), (112, .ref 207), (0, .int y)]) h3.1 ⟨Or.inr ⟨_, (h3.2 0 rfl).trans rfl⟩, Or.inr ⟨_, (h3.2 1 rfl).trans rfl⟩, Or.inr ⟨_, (h3.2 2 rfl).trans rfl⟩, Or.inr ⟨_, (h3.2 3 rfl).trans rfl⟩, trivial⟩ ?_
      exact s_L_law_888 L X hcs y qb qr _ _ _ h hq
    rcases mC_ok h with ⟨hb, h⟩ | ⟨_, h⟩
    · have e := Nat.eq_of_beq_eq_true hb
      subst e
      obtain ⟨hst, h⟩ := mN_ok h
      subst hst
      refine at_leaf (ls2 := [(9997, .ref 1000000), (111, .ref 0), (112, .ref 207), (0, .int y)]) h3.1 ⟨Or.inr ⟨_, (h3.2 0 rfl).trans rfl⟩, Or.inr ⟨_, (h3.2 1 rfl).trans rfl⟩, Or.inr ⟨_, (h3.2 2 rfl).trans rfl⟩, Or.inr ⟨_, (h3.2 3 rfl).trans rfl⟩, trivial⟩ ?_
      exact s_L_law_947 L X hcs y qb qr _ _ _ h hq
    rcases mC_ok h with ⟨hb, h⟩ | ⟨_, h⟩
    · have e := Nat.eq_of_beq_eq_true hb
      subst e
      obtain ⟨hst, h⟩ := mN_ok h
      subst hst
      refine at_leaf (ls2 := [(9997, .ref 1000000), (111, .ref 0), (112, .ref 207), (0, .int y)]) h3.1 ⟨Or.inr ⟨_, (h3.2 0 rfl).trans rfl⟩, Or.inr ⟨_, (h3.2 1 rfl).trans rfl⟩, Or.inr ⟨_, (h3.2 2 rfl).trans rfl⟩, Or.inr ⟨_, (h3.2 3 rfl).trans rfl⟩, trivial⟩ ?_
      exact s_L_law_970 L X hcs y qb qr _ _ _ h hq
    rcases mC_ok h with ⟨hb, h⟩ | ⟨_, h⟩
    · have e := Nat.eq_of_beq_eq_true hb
      subst e
      obtain ⟨hst, h⟩ := mN_ok h
      subst hst
      refine at_leaf (ls2 := [(9997, .ref 1000000), (111, .ref 0), (112, .ref 207), (0, .int y)]) h3.1 ⟨Or.inr ⟨_, (h3.2 0 rfl).trans rfl⟩, Or.inr ⟨_, (h3.2 1 rfl).trans rfl⟩, Or.inr ⟨_, (h3.2 2 rfl).trans rfl⟩, Or.inr ⟨_, (h3.2 3 rfl).trans rfl⟩, trivial⟩ ?_
      exact s_L_law_993 L X hcs y qb qr _ _ _ h hq
    rcases mC_ok h with ⟨hb, h⟩ | ⟨_, h⟩
    · have e := Nat.eq_of_beq_eq_true hb
      subst e
      obtain ⟨hst, h⟩ := mN_ok h
      subst hst
      refine at_leaf (ls2 := [(9997, .ref 1000000), (111, .ref 0), (112, .ref 207), (0, .int y)]) h3.1 ⟨Or.inr ⟨_, (h3.2 0 rfl).trans rfl⟩, Or.inr ⟨_, (h3.2 1 rfl).trans rfl⟩, Or.inr ⟨_, (h3.2 2 rfl).trans rfl⟩, Or.inr ⟨_, (h3.2 3 rfl).trans rfl⟩, trivial⟩ ?_
      exact s_L_law_1026 L X hcs y qb qr _ _ _ h hq
    rcases mC_ok h with ⟨hb, h⟩ | ⟨_, h⟩
    · have e := Nat.eq_of_beq_eq_true hb
      subst e
      obtain ⟨hst, h⟩ := mN_ok h
      subst hst
      refine at_leaf (ls2 := [(9997, .ref 1000000), (111, .ref 0), (112, .ref 207), (0, .int y)]) h3.1 ⟨Or.inr ⟨_, (h3.2 0 rfl).trans rfl⟩, Or.inr ⟨_, (h3.2 1 rfl).trans rfl⟩, Or.inr ⟨_, (h3.2 2 rfl).trans rfl⟩, Or.inr ⟨_, (h3.2 3 rfl).trans rfl⟩, trivial⟩ ?_
      exact s_L_law_1049 L X hcs y qb qr _ _ _ h hq
    rcases mC_ok h with ⟨hb, h⟩ | ⟨_, h⟩
    · have e := Nat.eq_of_beq_eq_true hb
      subst e
      obtain ⟨hst, h⟩ := mN_ok h
      subst hst
      refine at_leaf (ls2 := [(9997, .ref 1000000), (111, .ref 0), (112, .ref 207), (0, .int y)]) h3.1 ⟨Or.inr ⟨_, (h3.2 0 rfl).trans rfl⟩, Or.inr ⟨_, (h3.2 1 rfl).trans rfl⟩, Or.inr ⟨_, (h3.2 2 rfl).trans rfl⟩, Or.inr ⟨_, (h3.2 3 rfl).trans rfl⟩, trivial⟩ ?_
      exact s_L_law_1092 L X hcs y qb qr _ _ _ h hq
    rcases mC_ok h with ⟨hb, h⟩ | ⟨_, h⟩
    · have e := Nat.eq_of_beq_eq_true hb
      subst e
      obtain ⟨hst, h⟩ := mN_ok h
      subst hst
      refine at_leaf (ls2 := [(9997, .ref 1000000), (111, .ref 0), (112, .ref 207), (0, .int y)]) h3.1 ⟨Or.inr ⟨_, (h3.2 0 rfl).trans rfl⟩, Or.inr ⟨_, (h3.2 1 rfl).trans rfl⟩, Or.inr ⟨_, (h3.2 2 rfl).trans rfl⟩, Or.inr ⟨_, (h3.2 3 rfl).trans rfl⟩, trivial⟩ ?_
      exact s_L_law_1125 L X hcs y qb qr _ _ _ h hq
    rcases mC_ok h with ⟨hb, h⟩ | ⟨_, h⟩
    · have e := Nat.eq_of_beq_eq_true hb
      subst e
      obtain ⟨hst, h⟩ := mN_ok h
      subst hst
      refine at_leaf (ls2 := [(9997, .ref 1000000), (111, .ref 0), (112, .ref 207), (0, .int y)]) h3.1 ⟨Or.inr ⟨_, (h3.2 0 rfl).trans rfl⟩, Or.inr ⟨_, (h3.2 1 rfl).trans rfl⟩, Or.inr ⟨_, (h3.2 2 rfl).trans rfl⟩, Or.inr ⟨_, (h3.2 3 rfl).trans rfl⟩, trivial⟩ ?_
      exact s_L_law_1148 L X hcs y qb qr _ _ _ h hq
    rcases mC_ok h with ⟨hb, h⟩ | ⟨_, h⟩
    · have e := Nat.eq_of_beq_eq_true hb
      subst e
      obtain ⟨hst, h⟩ := mN_ok h
      subst hst
      refine at_leaf (ls2 := [(9997, .ref 1000000), (111, .ref 0), (112, .ref 207), (0, .int y)]) h3.1 ⟨Or.inr ⟨_, (h3.2 0 rfl).trans rfl⟩, Or.inr ⟨_, (h3.2 1 rfl).trans rfl⟩, Or.inr ⟨_, (h3.2 2 rfl).trans rfl⟩, Or.inr ⟨_, (h3.2 3 rfl).trans rfl⟩, trivial⟩ ?_
      exact s_L_law_1171 L X hcs y qb qr _ _ _ h hq
    rcases mC_ok h with ⟨hb, h⟩ | ⟨_, h⟩
    · have e := Nat.eq_of_beq_eq_true hb
      subst e
      obtain ⟨hst, h⟩ := mN_ok h
      subst hst
      refine at_leaf (ls2 := [(9997, .ref 1000000), (111, .ref 0), (112, .ref 207), (0, .int y)]) h3.1 ⟨Or.inr ⟨_, (h3.2 0 rfl).trans rfl⟩, Or.inr ⟨_, (h3.2 1 rfl).trans rfl⟩, Or.inr ⟨_, (h3.2 2 rfl).trans rfl⟩, Or.inr ⟨_, (h3.2 3 rfl).trans rfl⟩, trivial⟩ ?_
      exact s_L_law_1204 L X hcs y qb qr _ _ _ h hq
    rcases mC_ok h with ⟨hb, h⟩ | ⟨_, h⟩
    · have e := Nat.eq_of_beq_eq_true hb
      subst e
      obtain ⟨hst, h⟩ := mN_ok h
      subst hst
      refine at_leaf (ls2 := [(9997, .ref 1000000), (111, .ref 0), (112, .ref 207), (0, .int y)]) h3.1 ⟨Or.inr ⟨_, (h3.2 0 rfl).trans rfl⟩, Or.inr ⟨_, (h3.2 1 rfl).trans rfl⟩, Or.inr ⟨_, (h3.2 2 rfl).trans rfl⟩, Or.inr ⟨_, (h3.2 3 rfl).trans rfl⟩, trivial⟩ ?_
      exact s_L_law_1227 L X hcs y qb qr _ _ _ h hq
    rcases mC_ok h with ⟨hb, h⟩ | ⟨_, h⟩
    · have e := Nat.eq_of_beq_eq_true hb
      subst e
      obtain ⟨hst, h⟩ := mN_ok h
      subst hst
      refine at_leaf (ls2 := [(9997, .ref 1000000), (111, .ref 0), (112, .ref 207), (0, .int y)]) h3.1 ⟨Or.inr ⟨_, (h3.2 0 rfl).trans rfl⟩, Or.inr ⟨_, (h3.2 1 rfl).trans rfl⟩, Or.inr ⟨_, (h3.2 2 rfl).trans rfl⟩, Or.inr ⟨_, (h3.2 3 rfl).trans rfl⟩, trivial⟩ ?_
      exact s_L_law_1250 L X hcs y qb qr _ _ _ h hq
    rcases mC_ok h with ⟨hb, h⟩ | ⟨_, h⟩
    · have e := Nat.eq_of_beq_eq_true hb
      subst e
      obtain ⟨hst, h⟩ := mN_ok h
      subst hst
      refine at_leaf (ls2 := [(9997, .ref 1000000), (111, .ref 0), (112, .ref 207), (0, .int y)]) h3.1 ⟨Or.inr ⟨_, (h3.2 0 rfl).trans rfl⟩, Or.inr ⟨_, (h3.2 1 rfl).trans rfl⟩, Or.inr ⟨_, (h3.2 2 rfl).trans rfl⟩, Or.inr ⟨_, (h3.2 3 rfl).trans rfl⟩, trivial⟩ ?_
      exact s_L_law_1273 L X hcs y qb qr _ _ _ h hq
    rcases mC_ok h with ⟨hb, h⟩ | ⟨_, h⟩
    · have e := Nat.eq_of_beq_eq_true hb
      subst e
      obtain ⟨hst, h⟩ := mN_ok h
      subst hst
      refine at_leaf (ls2 := [(9997, .ref 1000000), (111, .ref 0), (112, .ref 207), (0, .int y)]) h3.1 ⟨Or.inr ⟨_, (h3.2 0 rfl).trans rfl⟩, Or.inr ⟨_, (h3.2 1 rfl).trans rfl⟩, Or.inr ⟨_, (h3.2 2 rfl).trans rfl⟩, Or.inr ⟨_, (h3.2 3 rfl).trans rfl⟩, trivial⟩ ?_
      exact s_L_law_1306 L X hcs y qb qr _ _ _ h hq
    rcases mC_ok h with ⟨hb, h⟩ | ⟨_, h⟩
    · have e := Nat.eq_of_beq_eq_true hb
      subst e
      obtain ⟨hst, h⟩ := mN_ok h
      subst hst
      refine at_leaf (ls2 := [(9997, .ref 1000000), (111, .ref 0), (112, .ref 207), (0, .int y)]) h3.1 ⟨Or.inr ⟨_, (h3.2 0 rfl).trans rfl⟩, Or.inr ⟨_, (h3.2 1 rfl).trans rfl⟩, Or.inr ⟨_, (h3.2 2 rfl).trans rfl⟩, Or.inr ⟨_, (h3.2 3 rfl).trans rfl⟩, trivial⟩ ?_
      exact s_L_law_1349 L X hcs y qb qr _ _ _ h hq
    rcases mC_ok h with ⟨hb, h⟩ | ⟨_, h⟩
    · have e := Nat.eq_of_beq_eq_true hb
      subst e
      obtain ⟨hst, h⟩ := mN_ok h
      subst hst
      refine at_leaf (ls2 := [(9997, .ref 1000000), (111, .ref 0), (112, .ref 207), (0, .int y)]) h3.1 ⟨Or.inr ⟨_, (h3.2 0 rfl).trans rfl⟩, Or.inr ⟨_, (h3.2 1 rfl).trans rfl⟩, Or.inr ⟨_, (h3.2 2 rfl).trans rfl⟩, Or.inr ⟨_, (h3.2 3 rfl).trans rfl⟩, trivial⟩ ?_
      exact s_L_law_1392 L X hcs y qb qr _ _ _ h hq
    rcases mC_ok h with ⟨hb, h⟩ | ⟨_, h⟩
    · have e := Nat.eq_of_beq_eq_true hb
      subst e
      obtain ⟨hst, h⟩ := mN_ok h
      subst hst
      refine at_leaf (ls2 := [(9997, .ref 1000000), (111, .ref 0), (112, .ref 207), (0, .int y)]) h3.1 ⟨Or.inr ⟨_, (h3.2 0 rfl).trans rfl⟩, Or.inr ⟨_, (h3.2 1 rfl).trans rfl⟩, Or.inr ⟨_, (h3.2 2 rfl).trans rfl⟩, Or.inr ⟨_, (h3.2 3 rfl).trans rfl⟩, trivial⟩ ?_
      exact s_L_law_1415 L X hcs y qb qr _ _ _ h hq
    rcases mC_ok h with ⟨hb, h⟩ | ⟨_, h⟩
    · have e := Nat.eq_of_beq_eq_true hb
      subst e
      obtain ⟨hst, h⟩ := mN_ok h
      subst hst
      refine at_leaf (ls2 := [(9997, .ref 1000000), (111, .ref 0), (112, .ref 207), (0, .int y)]) h3.1 ⟨Or.inr ⟨_, (h3.2 0 rfl).trans rfl⟩, Or.inr ⟨_, (h3.2 1 rfl).trans rfl⟩, Or.inr ⟨_, (h3.2 2 rfl).trans rfl⟩, Or.inr ⟨_, (h3.2 3 rfl).trans rfl⟩, trivial⟩ ?_
      exact s_L_law_1458 L X hcs y qb qr _ _ _ h hq
    rcases mC_ok h with ⟨hb, h⟩ | ⟨_, h⟩
    · have e := Nat.eq_of_beq_eq_true hb
      subst e
      obtain ⟨hst, h⟩ := mN_ok h
      subst hst
      refine at_leaf (ls2 := [(9997, .ref 1000000), (111, .ref 0), (112, .ref 207), (0, .int y)]) h3.1 ⟨Or.inr ⟨_, (h3.2 0 rfl).trans rfl⟩, Or.inr ⟨_, (h3.2 1 rfl).trans rfl⟩, Or.inr ⟨_, (h3.2 2 rfl).trans rfl⟩, Or.inr ⟨_, (h3.2 3 rfl).trans rfl⟩, trivial⟩ ?_
      exact s_L_law_1471 L X hcs y qb qr _ _ _ h hq
    rcases mC_ok h with ⟨hb, h⟩ | ⟨_, h⟩
    · have e := Nat.eq_of_beq_eq_true hb
      subst e
      obtain ⟨hst, h⟩ := mN_ok h
      subst hst
      refine at_leaf (ls2 := [(9997, .ref 1000000), (111, .ref 0), (112, .ref 207), (0, .int y)]) h3.1 ⟨Or.inr ⟨_, (h3.2 0 rfl).trans rfl⟩, Or.inr ⟨_, (h3.2 1 rfl).trans rfl⟩, Or.inr ⟨_, (h3.2 2 rfl).trans rfl⟩, Or.inr ⟨_, (h3.2 3 rfl).trans rfl⟩, trivial⟩ ?_
      exact s_L_law_1510 L X hcs y qb qr _ _ _ h hq
    rcases mC_ok h with ⟨hb, h⟩ | ⟨_, h⟩
    · have e := Nat.eq_of_beq_eq_true hb
      subst e
      obtain ⟨hst, h⟩ := mN_ok h
      subst hst
      refine at_leaf (ls2 := [(9997, .ref 1000000), (111, .ref 0), (112, .ref 207), (0, .int y)]) h3.1 ⟨Or.inr ⟨_, (h3.2 0 rfl).trans rfl⟩, Or.inr ⟨_, (h3.2 1 rfl).trans rfl⟩, Or.inr ⟨_, (h3.2 2 rfl).trans rfl⟩, Or.inr ⟨_, (h3.2 3 rfl).trans rfl⟩, trivial⟩ ?_
      exact s_L_law_1533 L X hcs y qb qr _ _ _ h hq
    cases h
  · intro v I2 _ h
    split at h
    · cases h; exact qr _ _ hq
    · cases h
def K_L_law_18 (L : Nat) (X : Nat → Int32) (x3 : Int32) : M (Int32) :=
  lp (B_L_law_18 L X) FU x3
theorem s_L_law_18 {d : Nat} (L : Nat) (X : Nat → Int32) (hcs : AllS L X d (cs_L_law F_A_act F_A_alias F_A_bed F_A_beds F_A_birthdays F_A_book F_A_boot F_A_box F_A_end F_A_fault F_A_feed F_A_game F_A_goes F_A_hoop F_A_hours F_A_image F_A_keeps F_A_least F_A_letter F_A_loan F_A_look F_A_named F_A_names F_A_net F_A_notes F_A_of F_A_pair F_A_person F_A_persons F_A_says F_A_set F_A_settled F_A_sighted F_A_speakers F_A_state F_A_street F_A_swings F_A_text F_A_undo F_A_vote F_A_who F_R_act F_R_alias F_R_bed F_R_beds F_R_birthdays F_R_book F_R_boot F_R_box F_R_end F_R_fault F_R_feed F_R_game F_R_goes F_R_hoop F_R_hours F_R_image F_R_keeps F_R_least F_R_letter F_R_loan F_R_look F_R_named F_R_names F_R_net F_R_notes F_R_of F_R_pair F_R_person F_R_persons F_R_says F_R_set F_R_settled F_R_sighted F_R_speakers F_R_state F_R_street F_R_swings F_R_text F_R_undo F_R_vote F_R_who)) (x3 : Int32) {o : Option Value × PH} {Q : (Int32) → MI → Prop} (q0 : ∀ v I, Q v I → o = (some (.int v), HH I)) (I : MI) (r : Int32) (I1 : MI) (h : K_L_law_18 L X x3 I = some (r, I1)) (hq : Q r I1) : At L X (d + 1) 331 18 [(9997, .ref 1000000), (111, .ref 0), (112, .ref 207), (0, .int x3)] [] I o := by
  unfold K_L_law_18 at h
  have w0 := fun w => at_lp (body := B_L_law_18 L X) (P := (fun (y : Int32) I => At L X (d + 1) 331 18 [(9997, .ref 1000000), (111, .ref 0), (112, .ref 207), (0, .int y)] [] I o)) (Q := (fun (e : Int32) I => Q e I)) w FU x3 I r I1 h hq
  refine w0 ?_
  intro y I r I1 h hq
  exact b_L_law_18 L X hcs (Q := SQ (fun (y : Int32) I => At L X (d + 1) 331 18 [(9997, .ref 1000000), (111, .ref 0), (112, .ref 207), (0, .int y)] [] I o) (fun (e : Int32) I => Q e I)) (fun _ _ w => w) q0 y I r I1 h hq
theorem allS_L_law {d : Nat} (hd : 127 ≤ d) : AllS L X d (cs_L_law F_A_act F_A_alias F_A_bed F_A_beds F_A_birthdays F_A_book F_A_boot F_A_box F_A_end F_A_fault F_A_feed F_A_game F_A_goes F_A_hoop F_A_hours F_A_image F_A_keeps F_A_least F_A_letter F_A_loan F_A_look F_A_named F_A_names F_A_net F_A_notes F_A_of F_A_pair F_A_person F_A_persons F_A_says F_A_set F_A_settled F_A_sighted F_A_speakers F_A_state F_A_street F_A_swings F_A_text F_A_undo F_A_vote F_A_who F_R_act F_R_alias F_R_bed F_R_beds F_R_birthdays F_R_book F_R_boot F_R_box F_R_end F_R_fault F_R_feed F_R_game F_R_goes F_R_hoop F_R_hours F_R_image F_R_keeps F_R_least F_R_letter F_R_loan F_R_look F_R_named F_R_names F_R_net F_R_notes F_R_of F_R_pair F_R_person F_R_persons F_R_says F_R_set F_R_settled F_R_sighted F_R_speakers F_R_state F_R_street F_R_swings F_R_text F_R_undo F_R_vote F_R_who) := ⟨S_A_act (by omega), S_A_alias (by omega), S_A_bed (by omega), S_A_beds (by omega), S_A_birthdays (by omega), S_A_book (by omega), S_A_boot (by omega), S_A_box (by omega), S_A_end (by omega), S_A_fault (by omega), S_A_feed (by omega), S_A_game (by omega), S_A_goes (by omega), S_A_hoop (by omega), S_A_hours (by omega), S_A_image (by omega), S_A_keeps (by omega), S_A_least (by omega), S_A_letter (by omega), S_A_loan (by omega), S_A_look (by omega), S_A_named (by omega), S_A_names (by omega), S_A_net (by omega), S_A_notes (by omega), S_A_of (by omega), S_A_pair (by omega), S_A_person (by omega), S_A_persons (by omega), S_A_says (by omega), S_A_set (by omega), S_A_settled (by omega), S_A_sighted (by omega), S_A_speakers (by omega), S_A_state (by omega), S_A_street (by omega), S_A_swings (by omega), S_A_text (by omega), S_A_undo (by omega), S_A_vote (by omega), S_A_who (by omega), S_R_act (by omega), S_R_alias (by omega), S_R_bed (by omega), S_R_beds (by omega), S_R_birthdays (by omega), S_R_book (by omega), S_R_boot (by omega), S_R_box (by omega), S_R_end (by omega), S_R_fault (by omega), S_R_feed (by omega), S_R_game (by omega), S_R_goes (by omega), S_R_hoop (by omega), S_R_hours (by omega), S_R_image (by omega), S_R_keeps (by omega), S_R_least (by omega), S_R_letter (by omega), S_R_loan (by omega), S_R_look (by omega), S_R_named (by omega), S_R_names (by omega), S_R_net (by omega), S_R_notes (by omega), S_R_of (by omega), S_R_pair (by omega), S_R_person (by omega), S_R_persons (by omega), S_R_says (by omega), S_R_set (by omega), S_R_settled (by omega), S_R_sighted (by omega), S_R_speakers (by omega), S_R_state (by omega), S_R_street (by omega), S_R_swings (by omega), S_R_text (by omega), S_R_undo (by omega), S_R_vote (by omega), S_R_who (by omega), trivial⟩
end
