/-! THE MACHINE FOLLOWS THE PURE ONE: the world of numbered cells on the heap, and a row an instruction -/
section SIM
/-- classes' numbers; the class of int rows, of rows of World; where the made cells begin; the script's cell, the text's cell; the heap at the start; the script -/
abbrev EV : Type := va_G × ClassId × ClassId × Nat × Nat × Nat × Heap × Nat × (Nat → Int32)
abbrev eD (E : EV) : va_G := E.1
abbrev eI (E : EV) : ClassId := E.2.1
abbrev eW (E : EV) : ClassId := E.2.2.1
abbrev eB (E : EV) : Nat := E.2.2.2.1
abbrev eS (E : EV) : Nat := E.2.2.2.2.1
abbrev eT (E : EV) : Nat := E.2.2.2.2.2.1
abbrev eH (E : EV) : Heap := E.2.2.2.2.2.2.1
abbrev eL (E : EV) : Nat := E.2.2.2.2.2.2.2.1
abbrev eX (E : EV) : Nat → Int32 := E.2.2.2.2.2.2.2.2
def ad (E : EV) (a : Nat) : Nat := if a = 1000000 then eS E else if a = 1000001 then eT E else eB E + a
def va (E : EV) (v : Value) : Value := match v with
  | .ref a => .ref (ad E a)
  | v => v
theorem va_i (E : EV) (x : Int32) : va E (.int x) = .int x := rfl
theorem va_l (E : EV) (x : Int64) : va E (.long x) = .long x := rfl
theorem va_r (E : EV) (a : Nat) : va E (.ref a) = .ref (ad E a) := rfl
def fV (E : EV) (h : PH) (c a k : Nat) : Value := if ftyOf pF c k = 2 then va_rf ((h.2.1 a k).map (ad E)) else .int (h.2.2 a k)
def cellE (E : EV) (h : PH) (a : Nat) (c : Nat × Nat) : va_E := match c.1 with
  | 0 => .inl (eI E, c.2, .inl (h.2.2 a))
  | 1 => .inl (eW E, c.2, .inr (.inr (.inr (.inr (fun j => (h.2.1 a j).map (ad E))))))
  | k + 2 => .inr (k, (List.range c.2).map (fV E h k a))
def wsOf (E : EV) (h : PH) : va_W := h.1.mapIdx (fun a c => (ad E a, cellE E h a c))
theorem wsOf_at {E : EV} {h : PH} {a : Nat} {c : Nat × Nat} (hc : h.1[a]? = some c) : (wsOf E h)[a]? = some (ad E a, cellE E h a c) := by
  simp [wsOf, List.getElem?_mapIdx, hc]
theorem wsOf_len (E : EV) (h : PH) : (wsOf E h).length = h.1.length := by simp [wsOf]
theorem ad_lt {E : EV} {a : Nat} (h : a < 1000000) : ad E a = eB E + a := by
  unfold ad
  rw [if_neg (by omega), if_neg (by omega)]
def ShOK (sh : List (Nat × Nat)) : Prop := sh.length ≤ 100000 ∧ ∀ (a c n : Nat), sh[a]? = some (c + 2, n) → pN[c]? = some n
theorem wsOf_D {E : EV} {h : PH} (hs : ShOK h.1) : va_D (fun q => eB E ≤ q) (wsOf E h) := by
  have key : ∀ (k : Nat) (q : Nat × va_E), (wsOf E h)[k]? = some q → k < 1000000 ∧ q.1 = eB E + k := by
    intro k q hk
    have hl : k < (wsOf E h).length := (List.getElem?_eq_some_iff.mp hk).1
    rw [wsOf_len] at hl
    have hc := wsOf_at (E := E) (h := h) (List.getElem?_eq_getElem hl)
    rw [hc] at hk
    cases hk
    have := hs.1
    exact ⟨by omega, ad_lt (by omega)⟩
  refine ⟨fun i j p q hi hj hpq => ?_, fun k q hk => ?_⟩
  · have h1 := (key i p hi).2
    have h2 := (key j q hj).2
    omega
  · have h1 := (key k q hk).2
    show eB E ≤ q.1
    omega
def tysE (E : EV) : List (ClassId × FieldType) := [(eI E, .int), (eW E, .object "AliasHouse$World")]
def isNest (w : Cond) : Bool := match w with
  | .methodLinkNest .. => true
  | _ => false
def HP (E : EV) (h : PH) (H : Heap) : Prop := va_P (eD E) pcl (wsOf E h) H ∧ H.size = eB E + h.1.length ∧ (∀ q, q < eB E → H[q]? = (eH E)[q]?) ∧ ShOK h.1
def TK (E : EV) (U : State) : Prop := va_K (eD E) pcl (tysE E) U ∧ (∀ w ∈ lw_tbl.filter isNest, va_Nw w U) ∧ va_AO "AliasHouse$World" U ∧ va_X (eS E) (eL E) (eX E) U (eH E)
theorem TK.warm {E : EV} {s U : State} (hW : s.WarmedH U.vm) (h : TK E s) : TK E U := by
  refine ⟨va_K.moved hW.alike h.1, fun w hw => ?_, va_AO.moved hW.alike h.2.2.1, va_X.moved hW.alike h.2.2.2⟩
  have h1 := h.2.1 w hw
  have h2 : isNest w = true := (List.mem_filter.mp hw).2
  cases w <;> first | (cases h2; done) | exact va_Nw.warmM hW h1
theorem TK.same {E : EV} {u U : State} (hv : u.vm = U.vm) (h : TK E u) : TK E U := by
  have ha : u.vm.Alike U.vm := by rw [hv]; exact Vm.Alike.refl U.vm
  refine ⟨va_K.moved ha h.1, fun w hw => ?_, va_AO.moved ha h.2.2.1, va_X.moved ha h.2.2.2⟩
  have h1 := h.2.1 w hw
  have h2 : isNest w = true := (List.mem_filter.mp hw).2
  cases w <;> first | (cases h2; done) | exact va_Nw.same rfl hv h1
/-- the machine's side: program, launch, environment, room, the start, its method, arguments, below, the method, its code, what is wanted; how many cells and slots there were -/
abbrev CTX : Type := Program × Launch × Env × Room × State × MethodId × Array Value × List Frame × Method × Code × (State → Prop) × Nat × Nat
abbrev xp (x : CTX) : Program := x.1
abbrev xl (x : CTX) : Launch := x.2.1
abbrev xe (x : CTX) : Env := x.2.2.1
abbrev xR (x : CTX) : Room := x.2.2.2.1
abbrev xs (x : CTX) : State := x.2.2.2.2.1
abbrev xm (x : CTX) : MethodId := x.2.2.2.2.2.1
abbrev xa (x : CTX) : Array Value := x.2.2.2.2.2.2.1
abbrev xb (x : CTX) : List Frame := x.2.2.2.2.2.2.2.1
abbrev xme (x : CTX) : Method := x.2.2.2.2.2.2.2.2.1
abbrev xc (x : CTX) : Code := x.2.2.2.2.2.2.2.2.2.1
abbrev xQ (x : CTX) : State → Prop := x.2.2.2.2.2.2.2.2.2.2.1
abbrev xn (x : CTX) : Nat := x.2.2.2.2.2.2.2.2.2.2.2.1
abbrev xt (x : CTX) : Nat := x.2.2.2.2.2.2.2.2.2.2.2.2
abbrev WX (x : CTX) (H : Heap) (locs : List Loc) (cells slots : Nat) (g : JFrame) : Prop := W (xp x) (xl x) (xe x) (xR x) (xs x) (xm x) (xa x) (xb x) (xme x) (xc x) H locs cells slots (xQ x) g
def tot (sh : List (Nat × Nat)) : Nat := (sh.map (fun c => c.2)).sum
/-- a local that is not told of -/
def isEV (v : Value) : Bool := match v with
  | .float _ => true
  | .double _ => true
  | _ => false
def locL (E : EV) (ls : List Value) : List (Nat × Value) := (ls.mapIdx (fun i v => (i, v))).filterMap (fun q => if isEV q.2 then none else some (q.1, va E q.2))
theorem mem_locL {E : EV} {ls : List Value} {q : Nat × Value} : q ∈ locL E ls ↔ ∃ v, ls[q.1]? = some v ∧ isEV v = false ∧ q.2 = va E v := by
  unfold locL
  rw [List.mem_filterMap]
  constructor
  · rintro ⟨q', hm, he⟩
    obtain ⟨j, hj, rfl⟩ := List.mem_mapIdx.mp hm
    by_cases hd : isEV ls[j] = true
    · simp [hd] at he
    · simp only [Bool.not_eq_true] at hd
      simp only [hd] at he
      cases he
      exact ⟨ls[j], List.getElem?_eq_getElem hj, hd, rfl⟩
  · rintro ⟨v, h1, h2, h3⟩
    obtain ⟨hj, e⟩ := List.getElem?_eq_some_iff.mp h1
    refine ⟨(q.1, v), ?_, ?_⟩
    · rw [List.mem_mapIdx]
      exact ⟨q.1, hj, by rw [e]⟩
    · simp only [h2]
      rw [← h3]
      rfl
theorem lv_mono {ls : Array Slot} {n : Nat} {l l' : List (Nat × Value)} (h : lv_has ls n l) (hs : ∀ q ∈ l', q ∈ l) : lv_has ls n l' := ⟨h.1, h.2.1, fun q hq => h.2.2 q (hs q hq)⟩
theorem loc_get {E : EV} {lsM : Array Slot} {n i : Nat} {ls : List Value} {v : Value} (h : lv_has lsM n (locL E ls)) (hv : ls[i]? = some v) (hd : isEV v = false) : lsM[i]? = some (.val (va E v)) := h.2.2 (i, va E v) (mem_locL.mpr ⟨v, hv, hd, rfl⟩)
theorem loc_st1 {E : EV} {lsM : Array Slot} {n i : Nat} {ls ls1 : List Value} {v : Value} (h : lv_has lsM n ((i, va E v) :: (locL E ls).filter (fun q => !(q.1 == i) && !(q.1 + 1 == i && q.2.category == 2)))) (hs : st1 ls i v = some ls1) : lv_has lsM n (locL E ls1) ∧ i < ls.length ∧ ls1.length = ls.length := by
  unfold st1 at hs
  split at hs
  · rename_i hc
    cases hs
    simp only [Bool.and_eq_true, decide_eq_true_eq, Bool.not_eq_true'] at hc
    refine ⟨lv_mono h (fun q hq => ?_), hc.1, by simp⟩
    obtain ⟨w, h1, h2, h3⟩ := mem_locL.mp hq
    by_cases hqi : q.1 = i
    · obtain ⟨a, b⟩ := q
      dsimp only at hqi h1 h3
      subst hqi
      rw [List.getElem?_set_self hc.1] at h1
      cases h1
      rw [h3]
      exact List.mem_cons_self
    · rw [List.getElem?_set_ne (Ne.symm hqi)] at h1
      refine List.mem_cons_of_mem _ (List.mem_filter.mpr ⟨mem_locL.mpr ⟨w, h1, h2, h3⟩, ?_⟩)
      simp only [Bool.and_eq_true, Bool.not_eq_true', beq_eq_false_iff_ne, ne_eq, Bool.and_eq_false_iff]
      refine ⟨hqi, ?_⟩
      by_cases e : q.1 + 1 = i
      · right
        rw [← e] at hc
        have hb := hc.2
        simp only [longBefore, h1] at hb
        rw [h3]
        cases w <;> simp_all [va, Value.category, isEV]
      · exact Or.inl e
  · cases hs
theorem loc_st2 {E : EV} {lsM : Array Slot} {n i : Nat} {ls ls1 : List Value} {x : Int64} (h : lv_has lsM n ((i, Value.long x) :: (locL E ls).filter (fun q => !(q.1 == i) && (!(q.1 == i + 1) && !(q.1 + 1 == i && q.2.category == 2))))) (hs : st2 ls i (.long x) = some ls1) : lv_has lsM n (locL E ls1) ∧ i + 1 < ls.length ∧ ls1.length = ls.length := by
  unfold st2 at hs
  split at hs
  · rename_i hc
    cases hs
    simp only [Bool.and_eq_true, decide_eq_true_eq, Bool.not_eq_true'] at hc
    refine ⟨lv_mono h (fun q hq => ?_), hc.1, by simp⟩
    obtain ⟨w, h1, h2, h3⟩ := mem_locL.mp hq
    by_cases hq1 : q.1 = i + 1
    · rw [hq1, List.getElem?_set_self (by simp; exact hc.1)] at h1
      cases h1
      simp [dV, isEV] at h2
    · rw [List.getElem?_set_ne (Ne.symm hq1)] at h1
      by_cases hqi : q.1 = i
      · obtain ⟨a, b⟩ := q
        dsimp only at hqi h1 h3
        subst hqi
        rw [List.getElem?_set_self (by omega)] at h1
        cases h1
        rw [h3]
        exact List.mem_cons_self
      · rw [List.getElem?_set_ne (Ne.symm hqi)] at h1
        refine List.mem_cons_of_mem _ (List.mem_filter.mpr ⟨mem_locL.mpr ⟨w, h1, h2, h3⟩, ?_⟩)
        simp only [Bool.and_eq_true, Bool.not_eq_true', beq_eq_false_iff_ne, ne_eq, Bool.and_eq_false_iff]
        refine ⟨hqi, hq1, ?_⟩
        by_cases e : q.1 + 1 = i
        · right
          rw [← e] at hc
          have hb := hc.2
          simp only [longBefore, h1] at hb
          rw [h3]
          cases w <;> simp_all [va, Value.category, isEV]
        · exact Or.inl e
  · cases hs
theorem st1_lt {ls ls1 : List Value} {i : Nat} {v : Value} (hs : st1 ls i v = some ls1) : i < ls.length := by
  unfold st1 at hs
  split at hs
  · rename_i hc
    simp only [Bool.and_eq_true, decide_eq_true_eq] at hc
    exact hc.1
  · cases hs
theorem st2_lt {ls ls1 : List Value} {i : Nat} {v : Value} (hs : st2 ls i v = some ls1) : i + 1 < ls.length := by
  unfold st2 at hs
  split at hs
  · rename_i hc
    simp only [Bool.and_eq_true, decide_eq_true_eq] at hc
    exact hc.1
  · cases hs
/-- from here the run comes to what is wanted -/
def J (E : EV) (mi : PInf) (x : CTX) (pc : Nat) (ls st : List Value) (h : PH) : Prop :=
  ∀ (H : Heap) (locs : List Loc) (cells slots : Nat) (lsM : Array Slot), HP E h H → (∀ q ∈ locs, eB E ≤ q.base) → lv_has lsM mi.2.2.1 (locL E ls) → ls.length = mi.2.2.1 → cells + xn x = h.1.length → slots + xt x = tot h.1 → cells ≤ (xR x).cells → slots ≤ (xR x).slots →
    WX x H locs cells slots (F0 (xm x) pc lsM (st.map (va E)))
/-- what stands fast in a method: the machine, its code, the words, the room for d calls in one another -/
def Ctx (E : EV) (SOK : State → Prop) (mi : PInf) (x : CTX) (d : Nat) : Prop :=
  (xp x).tables.exec = Jvm.exec ∧ (xc x).code = mi.2.1 ∧ (xc x).maxLocals = mi.2.2.1 ∧ (xs x).vm.findClass (oN.getD mi.2.2.2.2.1 "") = some (xm x).cls ∧ (∀ w ∈ GW, w.before (xa x) (xs x) = true) ∧ TK E (xs x) ∧ SOK (xs x) ∧ (mi.2.2.2.2.2 = true → (xme x).name = "<init>") ∧
  (xs x).heap.size = eB E + xn x ∧ d + 6 ≤ (xR x).frames ∧ 40 * (d + 6) ≤ (xR x).locals
end SIM
