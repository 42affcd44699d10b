/-! what the tables say of the links, by computing -/
def retOK (r : Option FieldType) (k : Nat) : Bool := match r with
  | none => k == 0
  | some .int => k == 1
  | some .boolean => k == 2
  | some .long => k == 3
  | some (.object _) => k == 4
  | _ => false
/-- what holds of each method: its words, its shape -/
def mF (m : PInf) (t : MR) (q : Nat × Nat × Nat × Nat) : Bool :=
  t.2.2.1 == m.2.2.1 && retOK m.2.2.2.1 t.2.2.2.1 && plainFor m.1 && !(m.1.cls == "java/lang/invoke/MethodHandle") && !(m.1.cls == "java/lang/invoke/VarHandle") && (m.1.cls == oN.getD m.2.2.2.2.1 "") && (m.2.2.2.2.2 == (m.1.name == "<init>")) && decide (t.2.2.1 ≤ 20) &&
  decide (lw_tbl[q.2.2.1]? = some (.initialized m.1.cls)) &&
  (decide (lw_tbl[q.1]? = some (.static m.1)) && decide ((parseMethodDescriptor m.1.desc).map (fun d => d.parameters.length) = some t.2.1) && t.2.2.2.2 == 99 && !m.2.2.2.2.2 ||
   decide (lw_tbl[q.1]? = some (.instanceMethod m.1)) && (m.2.2.2.2.2 && decide (m.2.2.2.1 = none) && t.2.2.2.2 == 98 || !m.2.2.2.2.2 && decide (lw_tbl[q.2.1]? = some (.selects m.1.cls m.1 m.1)) && t.2.2.2.2 == m.2.2.2.2.1 && decide (m.2.2.2.2.1 < 13)) && decide ((parseMethodDescriptor m.1.desc).map (fun d => d.parameters.length + 1) = some t.2.1))
def pQ3 : List (PInf × MR × (Nat × Nat × Nat × Nat)) := pM.zip (pT.zip pMP)
theorem mF_0 : ((pQ3.drop 0).take 20).all (fun q => mF q.1 q.2.1 q.2.2) = true := by decide +kernel
theorem mF_1 : ((pQ3.drop 20).take 20).all (fun q => mF q.1 q.2.1 q.2.2) = true := by decide +kernel
theorem mF_2 : ((pQ3.drop 40).take 20).all (fun q => mF q.1 q.2.1 q.2.2) = true := by decide +kernel
theorem mF_3 : ((pQ3.drop 60).take 20).all (fun q => mF q.1 q.2.1 q.2.2) = true := by decide +kernel
theorem mF_4 : ((pQ3.drop 80).take 20).all (fun q => mF q.1 q.2.1 q.2.2) = true := by decide +kernel
theorem mF_5 : ((pQ3.drop 100).take 20).all (fun q => mF q.1 q.2.1 q.2.2) = true := by decide +kernel
theorem mF_6 : ((pQ3.drop 120).take 20).all (fun q => mF q.1 q.2.1 q.2.2) = true := by decide +kernel
theorem mF_7 : ((pQ3.drop 140).take 20).all (fun q => mF q.1 q.2.1 q.2.2) = true := by decide +kernel
theorem mF_8 : ((pQ3.drop 160).take 20).all (fun q => mF q.1 q.2.1 q.2.2) = true := by decide +kernel
theorem mF_9 : ((pQ3.drop 180).take 20).all (fun q => mF q.1 q.2.1 q.2.2) = true := by decide +kernel
theorem mF_10 : ((pQ3.drop 200).take 20).all (fun q => mF q.1 q.2.1 q.2.2) = true := by decide +kernel
theorem mF_11 : ((pQ3.drop 220).take 20).all (fun q => mF q.1 q.2.1 q.2.2) = true := by decide +kernel
theorem mF_12 : ((pQ3.drop 240).take 20).all (fun q => mF q.1 q.2.1 q.2.2) = true := by decide +kernel
theorem mF_13 : ((pQ3.drop 260).take 20).all (fun q => mF q.1 q.2.1 q.2.2) = true := by decide +kernel
theorem mF_14 : ((pQ3.drop 280).take 20).all (fun q => mF q.1 q.2.1 q.2.2) = true := by decide +kernel
theorem mF_15 : ((pQ3.drop 300).take 20).all (fun q => mF q.1 q.2.1 q.2.2) = true := by decide +kernel
theorem mF_16 : ((pQ3.drop 320).take 11).all (fun q => mF q.1 q.2.1 q.2.2) = true := by decide +kernel
def flOK (o : Nat) (e : Nat × Nat × Nat) : Bool := match pcl[e.2.1 / 128]? with
  | some c => decide (e.2.1 % 128 < c.2.2) && decide (lw_tbl[e.2.2]? = some (.fieldLink (oN.getD o "") e.1 c.1 (c.2.1 (e.2.1 % 128)).2.1 (c.2.1 (e.2.1 % 128)).2.2.1)) && ((c.2.1 (e.2.1 % 128)).1 == c.1)
  | none => false
def allo {α : Type} (l : List (List α)) (f : Nat → α → Bool) : Bool := (List.range l.length).all (fun o => match l[o]? with
  | some x => x.all (f o)
  | none => true)
theorem flOK_all : allo pFL flOK = true := by decide +kernel
def mlOK (o : Nat) (e : Nat × Nat × Nat × Nat) : Bool := match pM[e.2.1]?, pMP[e.2.1]? with
  | some m, some q => match e.2.2.1 with
    | 0 => decide (lw_tbl[e.2.2.2]? = some (.methodLink (oN.getD o "") e.1 m.1)) && decide (lw_tbl[q.1]? = some (.instanceMethod m.1)) && !m.2.2.2.2.2
    | 1 => decide (lw_tbl[e.2.2.2]? = some (.methodLink (oN.getD o "") e.1 m.1)) && decide (lw_tbl[q.1]? = some (.static m.1))
    | 2 => decide (lw_tbl[e.2.2.2]? = some (.methodLinkNest (oN.getD o "") e.1 m.1 "AliasHouse")) && decide (lw_tbl[q.1]? = some (.static m.1))
    | 3 => decide (lw_tbl[e.2.2.2]? = some (.methodLink (oN.getD o "") e.1 m.1)) && m.2.2.2.2.2
    | 4 => decide (lw_tbl[e.2.2.2]? = some (.methodLinkNest (oN.getD o "") e.1 m.1 "AliasHouse")) && m.2.2.2.2.2
    | _ => false
  | _, _ => false
def mlRow (o i n : Nat) : Bool := match pML[o]? with
  | some l => ((l.drop i).take n).all (mlOK o)
  | none => true
theorem mlOK_0_0 : mlRow 0 0 40 = true := by decide +kernel
theorem mlOK_1_0 : mlRow 1 0 40 = true := by decide +kernel
theorem mlOK_2_0 : mlRow 2 0 40 = true := by decide +kernel
theorem mlOK_3_0 : mlRow 3 0 40 = true := by decide +kernel
theorem mlOK_4_0 : mlRow 4 0 40 = true := by decide +kernel
theorem mlOK_5_0 : mlRow 5 0 40 = true := by decide +kernel
theorem mlOK_6_0 : mlRow 6 0 40 = true := by decide +kernel
theorem mlOK_7_0 : mlRow 7 0 40 = true := by decide +kernel
theorem mlOK_8_0 : mlRow 8 0 40 = true := by decide +kernel
theorem mlOK_9_0 : mlRow 9 0 40 = true := by decide +kernel
theorem mlOK_10_0 : mlRow 10 0 40 = true := by decide +kernel
theorem mlOK_11_0 : mlRow 11 0 40 = true := by decide +kernel
theorem mlOK_11_1 : mlRow 11 40 40 = true := by decide +kernel
theorem mlOK_12_0 : mlRow 12 0 40 = true := by decide +kernel
theorem mlOK_12_1 : mlRow 12 40 40 = true := by decide +kernel
theorem mlOK_12_2 : mlRow 12 80 40 = true := by decide +kernel
theorem mlOK_13_0 : mlRow 13 0 40 = true := by decide +kernel
theorem mlOK_13_1 : mlRow 13 40 40 = true := by decide +kernel
theorem mlOK_13_2 : mlRow 13 80 40 = true := by decide +kernel
theorem mlOK_14_0 : mlRow 14 0 40 = true := by decide +kernel
theorem mlOK_15_0 : mlRow 15 0 40 = true := by decide +kernel
theorem mlOK_16_0 : mlRow 16 0 40 = true := by decide +kernel
def bName (k : Nat) : MethodName := match k with
  | 0 => Lib.objectInit
  | 1 => arraycopyName
  | 2 => Lib.Math.min.name
  | 3 => Lib.Math.max.name
  | 4 => Lib.MathLoose.max_long.x
  | 7 => ⟨"java/lang/Math", "floorMod", "(II)I"⟩
  | 5 => ⟨"java/lang/String", "length", "()I"⟩
  | _ => ⟨"java/lang/String", "charAt", "(I)C"⟩
def blOK (o : Nat) (e : Nat × Nat × Nat) : Bool := decide (lw_tbl[e.2.2]? = some (.methodLink (oN.getD o "") e.1 (bName e.2.1)))
theorem blOK_all : allo pBL blOK = true := by decide +kernel
def clOK (o : Nat) (e : Nat × Nat × Nat) : Bool := match pcl[e.2.1]? with
  | some c => decide (lw_tbl[e.2.2]? = some (.classLink (oN.getD o "") e.1 c.1))
  | none => false
theorem clOK_all : allo pCL clOK = true := by decide +kernel
def klOK (o : Nat) (e : Nat × Int × Nat) : Bool := decide (lw_tbl[e.2.2]? = some (.constant (oN.getD o "") e.1 (i32 e.2.1)))
theorem klOK_all : allo pKL klOK = true := by decide +kernel
def pLP : List (List Nat × Nat × Nat) := [([319], 313, 166),
  ([531, 533, 535], 523, 171),
  ([367, 369, 371, 373], 329, 168),
  ([556, 558, 560], 548, 173),
  ([566, 568, 570], 542, 172),
  ([497, 499, 501, 503, 505, 507, 509, 511, 513, 515, 517, 519], 475, 170),
  ([599, 601, 603, 605, 607, 609, 611, 613, 615, 617, 619], 574, 174),
  ([447, 449, 451, 453, 455, 457, 459, 461, 463, 465, 467, 469, 471], 193, 164),
  ([350, 352, 354, 356], 335, 169),
  ([394, 396, 398, 400], 323, 167),
  ([272, 274, 276, 278, 280, 282, 284, 286, 288, 290, 292, 294, 296, 298, 300, 302, 304, 306, 308], 199, 165),
  ([634, 636, 638, 640, 642, 644, 646, 648, 650, 652, 654, 656], 185, 163),
  ([1563, 1565, 1567, 1569, 1571, 1573, 1575, 1577, 1579, 1581, 1583, 1585, 1587, 1589, 1591, 1593, 1595, 1597, 1599, 1601, 1603, 1605, 1607, 1609, 1611, 1613, 1615, 1617, 1619, 1621, 1623, 1625, 1627, 1629, 1631, 1633, 1635, 1637, 1639, 1641, 1643, 1645, 1647, 1649, 1651, 1653, 1655, 1657, 1659, 1661, 1663, 1665, 1667, 1669, 1671, 1673, 1675, 1677, 1679, 1681, 1683, 1685, 1687, 1689, 1691, 1693, 1695, 1697, 1699, 1701, 1703, 1705, 1707, 1709, 1711, 1713, 1715, 1717], 1480, 176)]
def tyOf (q : vw_C) (k : Nat) : FieldType := match parseFieldDescriptor (q.2.1 k).2.2.1 with
  | some t => t
  | none => .int
def tyFit (t : FieldType) (k : Nat) : Bool := match t with
  | .int => k == 0
  | .boolean => k == 1
  | .object _ => k == 2
  | .array _ => k == 2
  | _ => false
def clsOK (c : Nat) (q : vw_C) : Bool := match pLP[c]? with
  | some e => e.1.length == q.2.2 && (List.range q.2.2).all (fun k => decide (lw_tbl[e.1.getD k 9999]? = some (u_lay q.1 q.2.1 k)) && goodWord (u_lay q.1 q.2.1 k) && decide (parseFieldDescriptor (q.2.1 k).2.2.1 = some (tyOf q k)) && tyFit (tyOf q k) (ftyOf pF c k) && (List.range q.2.2).all (fun j => j == k || !((q.2.1 k).2.1 == (q.2.1 j).2.1))) &&
      decide (lw_tbl[e.2.1]? = some (.instantiable q.1 q.2.2)) && decide (lw_tbl[e.2.2]? = some (.initialized q.1)) && decide (pN[c]? = some q.2.2) && decide (q.2.2 ≤ 128)
  | none => false
theorem clsOK_0 : (List.range 12).all (fun c => clsOK c (pcl.getD c ("", fun _ => ("", "", "", false), 0))) = true := by decide +kernel
theorem clsOK_12 : clsOK 12 (pcl.getD 12 ("", fun _ => ("", "", "", false), 0)) = true := by decide +kernel
def GW : List Cond := lw_tbl.filter goodWord
theorem inGW {w : Cond} {i : Nat} (h : lw_tbl[i]? = some w) (hg : goodWord w = true) : w ∈ GW := List.mem_filter.mpr ⟨List.mem_of_getElem? h, hg⟩
theorem allo_at {α : Type} {l : List (List α)} {f : Nat → α → Bool} {o : Nat} {xs : List α} {e : α} (h : allo l f = true) (ho : l[o]? = some xs) (he : e ∈ xs) : f o e = true := by
  have h1 := List.all_eq_true.mp h o (List.mem_range.mpr (List.getElem?_eq_some_iff.mp ho).1)
  rw [ho] at h1
  exact List.all_eq_true.mp h1 e he
theorem has3_spec {l : List (List (Nat × Nat × Nat))} {o i n : Nat} (h : has3 l o i n = true) : ∃ (xs : List (Nat × Nat × Nat)) (pl : Nat), l[o]? = some xs ∧ (i, n, pl) ∈ xs := by
  unfold has3 at h
  split at h
  · rename_i xs hx
    obtain ⟨⟨a, b, c⟩, he, h1⟩ := List.any_eq_true.mp h
    simp only [Bool.and_eq_true, beq_iff_eq] at h1
    obtain ⟨rfl, rfl⟩ := h1
    exact ⟨xs, c, hx, he⟩
  · cases h
theorem fl_fact {o i n : Nat} (h : has3 pFL o i n = true) : ∃ q : vw_C, pcl[n / 128]? = some q ∧ n % 128 < q.2.2 ∧ Cond.fieldLink (oN.getD o "") i q.1 (q.2.1 (n % 128)).2.1 (q.2.1 (n % 128)).2.2.1 ∈ GW ∧ (q.2.1 (n % 128)).1 = q.1 := by
  obtain ⟨xs, pl, h1, h2⟩ := has3_spec h
  have h3 := allo_at flOK_all h1 h2
  unfold flOK at h3
  dsimp only at h3
  split at h3
  · rename_i c hc
    simp only [Bool.and_eq_true, decide_eq_true_eq, beq_iff_eq] at h3
    exact ⟨c, hc, h3.1.1, inGW h3.1.2 rfl, h3.2⟩
  · cases h3
theorem cl_fact {o i n : Nat} (h : has3 pCL o i n = true) : ∃ q : vw_C, pcl[n]? = some q ∧ Cond.classLink (oN.getD o "") i q.1 ∈ GW := by
  obtain ⟨xs, pl, h1, h2⟩ := has3_spec h
  have h3 := allo_at clOK_all h1 h2
  unfold clOK at h3
  dsimp only at h3
  split at h3
  · rename_i c hc
    simp only [decide_eq_true_eq] at h3
    exact ⟨c, hc, inGW h3 rfl⟩
  · cases h3
theorem bl_fact {o i n : Nat} (h : has3 pBL o i n = true) : Cond.methodLink (oN.getD o "") i (bName n) ∈ GW := by
  obtain ⟨xs, pl, h1, h2⟩ := has3_spec h
  have h3 := allo_at blOK_all h1 h2
  simp only [blOK, decide_eq_true_eq] at h3
  exact inGW h3 rfl
theorem kl_fact {o i : Nat} {n : Int} (h : hasK o i n = true) : Cond.constant (oN.getD o "") i (i32 n) ∈ GW := by
  unfold hasK at h
  split at h
  · rename_i xs hx
    obtain ⟨⟨a, b, c⟩, he, h1⟩ := List.any_eq_true.mp h
    simp only [Bool.and_eq_true, beq_iff_eq] at h1
    obtain ⟨rfl, rfl⟩ := h1
    have h3 := allo_at klOK_all hx he
    simp only [klOK, decide_eq_true_eq] at h3
    exact inGW h3 rfl
  · cases h
/-- what holds of a class -/
def CF (c : Nat) (q : vw_C) : Prop := (∀ w ∈ u_ws q.1 q.2.1 q.2.2, w ∈ GW) ∧ (∀ k, k < q.2.2 → parseFieldDescriptor (q.2.1 k).2.2.1 = some (tyOf q k)) ∧ (∀ k, k < q.2.2 → tyFit (tyOf q k) (ftyOf pF c k) = true) ∧ (∀ a, a < q.2.2 → ∀ b, b < q.2.2 → a ≠ b → (q.2.1 a).2.1 ≠ (q.2.1 b).2.1) ∧ Cond.instantiable q.1 q.2.2 ∈ GW ∧ Cond.initialized q.1 ∈ GW ∧ pN[c]? = some q.2.2 ∧ q.2.2 ≤ 128
theorem cf_of {c : Nat} {q : vw_C} (h : clsOK c q = true) : CF c q := by
  unfold clsOK at h
  split at h
  · rename_i e he
    simp only [Bool.and_eq_true, decide_eq_true_eq, beq_iff_eq, List.all_eq_true, List.mem_range, Bool.or_eq_true, Bool.not_eq_true', beq_eq_false_iff_ne, ne_eq] at h
    obtain ⟨⟨⟨⟨⟨h0, h1⟩, h2⟩, h3⟩, h4⟩, h5⟩ := h
    refine ⟨fun w hw => ?_, fun k hk => (h1 k hk).1.1.2, fun k hk => (h1 k hk).1.2, fun a ha b hb hab => ?_, inGW h2 rfl, inGW h3 rfl, h4, h5⟩
    · obtain ⟨k, hk, rfl⟩ := List.mem_map.mp hw
      have := h1 k (List.mem_range.mp hk)
      exact inGW this.1.1.1.1 this.1.1.1.2
    · rcases (h1 a ha).2 b hb with h6 | h6
      · exact absurd h6.symm hab
      · exact h6
  · cases h
theorem pcl_fact {c : Nat} {q : vw_C} (h : pcl[c]? = some q) : CF c q := by
  have hlt : c < 13 := (List.getElem?_eq_some_iff.mp h).1
  have hq : pcl.getD c ("", fun _ => ("", "", "", false), 0) = q := by rw [List.getD_eq_getElem?_getD, h]; rfl
  by_cases h12 : c = 12
  · subst h12
    rw [← hq]
    exact cf_of clsOK_12
  · rw [← hq]
    exact cf_of (List.all_eq_true.mp clsOK_0 c (List.mem_range.mpr (by omega)))
theorem w_objinst : Cond.instanceMethod Lib.objectInit ∈ GW := inGW (i := 190) (by decide +kernel) rfl
theorem w_objcode : Cond.code Lib.objectInit ⟨#[0xb1]⟩ 1 none ∈ GW := inGW (i := 191) (by decide +kernel) rfl
theorem w_acnat : Cond.native arraycopyName ∈ GW := inGW (i := 720) (by decide +kernel) rfl
theorem w_acstat : Cond.static arraycopyName ∈ GW := inGW (i := 719) (by decide +kernel) rfl
theorem w_sysinit : Cond.initialized "java/lang/System" ∈ GW := inGW (i := 177) (by decide +kernel) rfl
theorem w_mathinit : Cond.initialized "java/lang/Math" ∈ GW := inGW (i := 178) (by decide +kernel) rfl
theorem w_minstat : Cond.static Lib.Math.min.name ∈ GW := inGW (i := 722) (by decide +kernel) rfl
theorem w_mincode : Cond.code Lib.Math.min.name Lib.Math.min.code 2 (some .int) ∈ GW := inGW (i := 723) (by decide +kernel) rfl
theorem w_maxstat : Cond.static Lib.Math.max.name ∈ GW := inGW (i := 839) (by decide +kernel) rfl
theorem w_maxcode : Cond.code Lib.Math.max.name Lib.Math.max.code 2 (some .int) ∈ GW := inGW (i := 840) (by decide +kernel) rfl
theorem w_maxlstat : Cond.static Lib.MathLoose.max_long.x ∈ GW := inGW (i := 1329) (by decide +kernel) rfl
theorem w_maxlcode : Cond.code Lib.MathLoose.max_long.x Lib.MathLoose.max_long.code 4 (some .long) ∈ GW := inGW (i := 1330) (by decide +kernel) rfl
theorem w_arrint : Cond.arrayClass .int ∈ GW := inGW (i := 311) (by decide +kernel) rfl
theorem w_fmstat : Cond.static ⟨"java/lang/Math", "floorMod", "(II)I"⟩ ∈ GW := inGW (i := 1348) (by decide +kernel) rfl
theorem w_fmcode : Cond.code ⟨"java/lang/Math", "floorMod", "(II)I"⟩ prog_16_method_50_code 3 (some .int) ∈ GW := inGW (i := 1349) (by decide +kernel) rfl
