/-! one instruction, and a whole piece of code -/
section WF3
variable {L : Nat} {X : Nat → Int32}
theorem at_go {d z pc len p1 p2 : Nat} {op : Instr} {ls st ls1 st1 : TL} {I I1 : MI} {o : Option Value × PH} (hf : fetch pT z pc = some (op, len)) (hi : isRet op = false) (hc : callee op = none) (hst : stp pN pF L X op len pc (vs ls) (vs st) (HH I) = some (true, true, p1, p2, vs ls1, vs st1, HH I1)) (k : At L X d z p1 ls1 st1 I1 o) : At L X d z pc ls st I o :=
  seg_step hf hi hc hst (by rw [if_pos rfl]; exact k)
theorem at_if {d z pc len p1 p2 : Nat} {op : Instr} {b : Bool} {ls st ls1 st1 : TL} {I I1 : MI} {o : Option Value × PH} (hf : fetch pT z pc = some (op, len)) (hi : isRet op = false) (hc : callee op = none) (hst : stp pN pF L X op len pc (vs ls) (vs st) (HH I) = some (true, b, p1, p2, vs ls1, vs st1, HH I1)) (k : (b = true ∧ At L X d z p1 ls1 st1 I1 o) ∨ (b = false ∧ At L X d z p2 ls1 st1 I1 o)) : At L X d z pc ls st I o := by
  rcases k with ⟨rfl, k⟩ | ⟨rfl, k⟩
  · exact seg_step hf hi hc hst (by rw [if_pos rfl]; exact k)
  · exact seg_step hf hi hc hst (by rw [if_neg Bool.false_ne_true]; exact k)
theorem at_call {d z pc len q na : Nat} {op : Instr} {c : CSem} {ls st : TL} {I : MI} {o : Option Value × PH} {β : Type} {cs : List (Nat × Nat × CSem)} {mods : List Nat} {ls0 : TL} {r : β × MI} {nx : Nat → TL → TL → M β} (hf : fetch pT z pc = some (op, len)) (hi : isRet op = false) (hc : callee op = some q) (hcs : AllS L X d cs) (hq : cfind cs q = some (na, c)) (hn : (Nat.ble na st.length && lowW (st.drop na)) = true) (hls : Ty ls) (hst : Ty st) (hun : Unm mods ls0 ls)
    (hnx : ∀ pc ls st I, Ty ls → Ty st → Unm mods ls0 ls → nx pc ls st I = some r → At L X (d + 1) z pc ls st I o)
    (hw : c β (st.take na).reverse (fun v => nx (pc + len) ls (v.toList ++ st.drop na)) I = some r) : At L X (d + 1) z pc ls st I o := by
  obtain ⟨mq, h1, h2, h3⟩ := allS_find hcs hq
  simp only [Bool.and_eq_true] at hn
  have hle := Nat.le_of_ble_eq_true hn.1
  obtain ⟨hr, hfi, ov, I1, hov, hs, hk⟩ := h3 β _ _ _ _ (ty_rev (ty_take hst)) (by simp [hle]) hw
  have e1 : vs (st.take na).reverse = ((vs st).take na).reverse := by unfold vs; rw [List.map_reverse, List.map_take]
  have e2 : vs (st.drop na) = (vs st).drop na := by unfold vs; rw [List.map_drop]
  subst h2
  rw [e1] at hr hfi hs
  refine seg_call hf hi hc h1 ?_ hs ?_
  · simp only [Bool.and_eq_true, decide_eq_true_eq]
    refine ⟨⟨⟨by unfold vs; rw [List.length_map]; exact hle, ?_⟩, hr⟩, hfi⟩
    rw [← e2, low_W]
    exact hn.2
  · have h4 := hnx _ _ _ _ hls (ty_app (l := ov.toList) (by cases ov with
      | none => exact trivial
      | some e => exact ⟨hov, trivial⟩) (ty_drop hst)) hun hk
    unfold At at h4
    have e3 : vs (ov.toList ++ st.drop mq.2.1) = (ov.map Prod.snd).toList ++ (vs st).drop mq.2.1 := by
      unfold vs
      rw [List.map_append, List.map_drop]
      cases ov <;> rfl
    rw [e3] at h4
    exact h4
theorem hh1 (I : MI) : (HH I).1 = shT := by simp only [HH]
theorem hh2 (I : MI) : (HH I).2.1 = rf0 := by simp only [HH]
theorem hh3 (I : MI) : (HH I).2.2 = I := by simp only [HH]
theorem hhw (I J : MI) : ((HH I).1, (HH I).2.1, J) = HH J := by simp only [HH]
theorem stp_gi0 {n len pc a : Nat} {ls st : List Value} {h : PH} (hf : ftyOf pF (n / 128) (n % 128) ≤ 1) (ho : isObj h.1 a (n / 128) = true) : stp pN pF L X (.getfield n) len pc ls (.ref a :: st) h = some (true, true, pc + len, pc + len, ls, .int (h.2.2 a (n % 128)) :: st, h) := by
  show (match ftyOf pF (n / 128) (n % 128) with
    | 2 => goIf (isObj h.1 a (n / 128) && rfs h.2.1 a (n % 128)) (pc + len) ls (.ref (rfd h.2.1 a (n % 128)) :: st) h
    | 9 => none
    | _ => goIf (isObj h.1 a (n / 128)) (pc + len) ls (.int (h.2.2 a (n % 128)) :: st) h) = _
  rw [ho]
  generalize ftyOf pF (n / 128) (n % 128) = q at hf
  match q, hf with
  | 0, _ => rfl
  | 1, _ => rfl
  | q + 2, h => omega
theorem stp_gi {n len pc a : Nat} {ls st : List Value} {I : MI} (hf : ftyOf pF (n / 128) (n % 128) ≤ 1) (ho : isObj shT a (n / 128) = true) : stp pN pF L X (.getfield n) len pc ls (.ref a :: st) (HH I) = some (true, true, pc + len, pc + len, ls, .int (I a (n % 128)) :: st, HH I) := by
  rw [stp_gi0 hf (by rw [hh1]; exact ho), hh3]
theorem stp_gr0 {n len pc a x : Nat} {ls st : List Value} {h : PH} (hf : ftyOf pF (n / 128) (n % 128) = 2) (ho : isObj h.1 a (n / 128) = true) (hr : h.2.1 a (n % 128) = some x) : stp pN pF L X (.getfield n) len pc ls (.ref a :: st) h = some (true, true, pc + len, pc + len, ls, .ref x :: st, h) := by
  show (match ftyOf pF (n / 128) (n % 128) with
    | 2 => goIf (isObj h.1 a (n / 128) && rfs h.2.1 a (n % 128)) (pc + len) ls (.ref (rfd h.2.1 a (n % 128)) :: st) h
    | 9 => none
    | _ => goIf (isObj h.1 a (n / 128)) (pc + len) ls (.int (h.2.2 a (n % 128)) :: st) h) = _
  rw [hf, ho]
  unfold rfs rfd
  rw [hr]
  rfl
theorem stp_gr {n len pc a x : Nat} {ls st : List Value} {I : MI} (hf : ftyOf pF (n / 128) (n % 128) = 2) (ho : isObj shT a (n / 128) = true) (hr : rf0 a (n % 128) = some x) : stp pN pF L X (.getfield n) len pc ls (.ref a :: st) (HH I) = some (true, true, pc + len, pc + len, ls, .ref x :: st, HH I) :=
  stp_gr0 hf (by rw [hh1]; exact ho) (by rw [hh2]; exact hr)
theorem stp_pi0 {n len pc a : Nat} {v : Int32} {ls st : List Value} {h : PH} (hf : ftyOf pF (n / 128) (n % 128) = 0) (ho : isObj h.1 a (n / 128) = true) : stp pN pF L X (.putfield n) len pc ls (.int v :: .ref a :: st) h = some (true, true, pc + len, pc + len, ls, st, (h.1, h.2.1, bup h.2.2 a (upd (h.2.2 a) (n % 128) v))) := by
  show (match ftyOf pF (n / 128) (n % 128) with
    | 0 => goIf (isObj h.1 a (n / 128)) (pc + len) ls st (h.1, h.2.1, bup h.2.2 a (upd (h.2.2 a) (n % 128) v))
    | 1 => goIf (isObj h.1 a (n / 128) && (decide (v = 0) || decide (v = 1))) (pc + len) ls st (h.1, h.2.1, bup h.2.2 a (upd (h.2.2 a) (n % 128) v))
    | _ => none) = _
  rw [hf, ho]
  rfl
theorem stp_pi {n len pc a : Nat} {v : Int32} {ls st : List Value} {I : MI} (hf : ftyOf pF (n / 128) (n % 128) = 0) (ho : isObj shT a (n / 128) = true) : stp pN pF L X (.putfield n) len pc ls (.int v :: .ref a :: st) (HH I) = some (true, true, pc + len, pc + len, ls, st, HH (bup I a (upd (I a) (n % 128) v))) := by
  rw [stp_pi0 hf (by rw [hh1]; exact ho), hh3, hhw]
theorem stp_pz0 {n len pc a : Nat} {v : Int32} {ls st : List Value} {h : PH} (hf : ftyOf pF (n / 128) (n % 128) = 1) (hv : (decide (v = 0) || decide (v = 1)) = true) (ho : isObj h.1 a (n / 128) = true) : stp pN pF L X (.putfield n) len pc ls (.int v :: .ref a :: st) h = some (true, true, pc + len, pc + len, ls, st, (h.1, h.2.1, bup h.2.2 a (upd (h.2.2 a) (n % 128) v))) := by
  show (match ftyOf pF (n / 128) (n % 128) with
    | 0 => goIf (isObj h.1 a (n / 128)) (pc + len) ls st (h.1, h.2.1, bup h.2.2 a (upd (h.2.2 a) (n % 128) v))
    | 1 => goIf (isObj h.1 a (n / 128) && (decide (v = 0) || decide (v = 1))) (pc + len) ls st (h.1, h.2.1, bup h.2.2 a (upd (h.2.2 a) (n % 128) v))
    | _ => none) = _
  rw [hf, ho, hv]
  rfl
theorem stp_pz {n len pc a : Nat} {v : Int32} {ls st : List Value} {I : MI} (hf : ftyOf pF (n / 128) (n % 128) = 1) (hv : (decide (v = 0) || decide (v = 1)) = true) (ho : isObj shT a (n / 128) = true) : stp pN pF L X (.putfield n) len pc ls (.int v :: .ref a :: st) (HH I) = some (true, true, pc + len, pc + len, ls, st, HH (bup I a (upd (I a) (n % 128) v))) := by
  rw [stp_pz0 hf hv (by rw [hh1]; exact ho), hh3, hhw]
theorem stp_al0 {len pc a : Nat} {i : Int32} {ls st : List Value} {h : PH} (ho : isArr h.1 a = true) (hi : inR i (siz h.1 a) = true) : stp pN pF L X .iaload len pc ls (.int i :: .ref a :: st) h = some (true, true, pc + len, pc + len, ls, .int (h.2.2 a i.toNatClampNeg) :: st, h) := by
  show goIf (isArr h.1 a && inR i (siz h.1 a)) _ _ _ _ = _
  rw [ho, hi]
  rfl
theorem stp_al {len pc a n : Nat} {i : Int32} {ls st : List Value} {I : MI} (ho : isArr shT a = true) (hn : siz shT a = n) (hi : inR i n = true) : stp pN pF L X .iaload len pc ls (.int i :: .ref a :: st) (HH I) = some (true, true, pc + len, pc + len, ls, .int (I a i.toNatClampNeg) :: st, HH I) := by
  rw [stp_al0 (by rw [hh1]; exact ho) (by rw [hh1, hn]; exact hi), hh3]
theorem stp_as0 {len pc a : Nat} {i v : Int32} {ls st : List Value} {h : PH} (ho : isArr h.1 a = true) (hi : inR i (siz h.1 a) = true) : stp pN pF L X .iastore len pc ls (.int v :: .int i :: .ref a :: st) h = some (true, true, pc + len, pc + len, ls, st, (h.1, h.2.1, bup h.2.2 a (upd (h.2.2 a) i.toNatClampNeg v))) := by
  show goIf (isArr h.1 a && inR i (siz h.1 a)) _ _ _ _ = _
  rw [ho, hi]
  rfl
theorem stp_as {len pc a n : Nat} {i v : Int32} {ls st : List Value} {I : MI} (ho : isArr shT a = true) (hn : siz shT a = n) (hi : inR i n = true) : stp pN pF L X .iastore len pc ls (.int v :: .int i :: .ref a :: st) (HH I) = some (true, true, pc + len, pc + len, ls, st, HH (bup I a (upd (I a) i.toNatClampNeg v))) := by
  rw [stp_as0 (by rw [hh1]; exact ho) (by rw [hh1, hn]; exact hi), hh3, hhw]
theorem stp_aa0 {len pc a x : Nat} {i : Int32} {ls st : List Value} {h : PH} (ho : isRow h.1 a = true) (hi : inR i (siz h.1 a) = true) (hr : h.2.1 a i.toNatClampNeg = some x) : stp pN pF L X .aaload len pc ls (.int i :: .ref a :: st) h = some (true, true, pc + len, pc + len, ls, .ref x :: st, h) := by
  show goIf (isRow h.1 a && inR i (siz h.1 a) && rfs h.2.1 a i.toNatClampNeg) (pc + len) ls (.ref (rfd h.2.1 a i.toNatClampNeg) :: st) h = _
  rw [ho, hi]
  unfold rfs rfd
  rw [hr]
  rfl
theorem row_is : isRow shT 123 = true := by decide +kernel
theorem row_sz : siz shT 123 = 6 := by decide +kernel
theorem stp_aa {len pc x : Nat} {i : Int32} {ls st : List Value} {I : MI} (hi : inR i 6 = true) (hr : rf0 123 i.toNatClampNeg = some x) : stp pN pF L X .aaload len pc ls (.int i :: .ref 123 :: st) (HH I) = some (true, true, pc + len, pc + len, ls, .ref x :: st, HH I) :=
  stp_aa0 (by rw [hh1]; exact row_is) (by rw [hh1, row_sz]; exact hi) (by rw [hh2]; exact hr)
theorem stp_ln0 {len pc a : Nat} {ls st : List Value} {h : PH} (ho : isArr h.1 a = true) : stp pN pF L X .arraylength len pc ls (.ref a :: st) h = some (true, true, pc + len, pc + len, ls, .int (Int32.ofNat (siz h.1 a)) :: st, h) := by
  show goIf (isArr h.1 a) _ _ _ _ = _
  rw [ho]
  rfl
theorem stp_ln {len pc a n : Nat} {ls st : List Value} {I : MI} (ho : isArr shT a = true) (hn : siz shT a = n) : stp pN pF L X .arraylength len pc ls (.ref a :: st) (HH I) = some (true, true, pc + len, pc + len, ls, .int (Int32.ofNat n) :: st, HH I) := by
  rw [stp_ln0 (by rw [hh1]; exact ho), hh1, hn]
theorem stp_cp0 {len pc a b : Nat} {n dp sp : Int32} {ls st : List Value} {h : PH} (hl : low st = true) (ha : isArr h.1 a = true) (hb : isArr h.1 b = true) (hc : (!(decide (sp < 0)) && !(decide (dp < 0)) && !(decide (n < 0)) && decide (sp.toNatClampNeg + n.toNatClampNeg ≤ siz h.1 a) && decide (dp.toNatClampNeg + n.toNatClampNeg ≤ siz h.1 b)) = true) : stp pN pF L X (.invokedynamic 1) len pc ls (.int n :: .int dp :: .ref b :: .int sp :: .ref a :: st) h = some (true, true, pc + len, pc + len, ls, st, (h.1, h.2.1, bup h.2.2 b (cpyI (h.2.2 a) (h.2.2 b) sp.toNatClampNeg dp.toNatClampNeg n.toNatClampNeg))) := by
  show goIf (low st && isArr h.1 a && isArr h.1 b && !(decide (sp < 0)) && !(decide (dp < 0)) && !(decide (n < 0)) && decide (sp.toNatClampNeg + n.toNatClampNeg ≤ siz h.1 a) && decide (dp.toNatClampNeg + n.toNatClampNeg ≤ siz h.1 b)) _ _ _ _ = _
  rw [hl, ha, hb]
  simp only [Bool.true_and]
  rw [hc]
  rfl
theorem stp_cp {len pc a b na nb : Nat} {n dp sp : Int32} {ls st : List Value} {I : MI} (hl : low st = true) (ha : isArr shT a = true) (hb : isArr shT b = true) (ea : siz shT a = na) (eb : siz shT b = nb) (hc : (!(decide (sp < 0)) && !(decide (dp < 0)) && !(decide (n < 0)) && decide (sp.toNatClampNeg + n.toNatClampNeg ≤ na) && decide (dp.toNatClampNeg + n.toNatClampNeg ≤ nb)) = true) : stp pN pF L X (.invokedynamic 1) len pc ls (.int n :: .int dp :: .ref b :: .int sp :: .ref a :: st) (HH I) = some (true, true, pc + len, pc + len, ls, st, HH (bup I b (cpyI (I a) (I b) sp.toNatClampNeg dp.toNatClampNeg n.toNatClampNeg))) := by
  rw [stp_cp0 hl (by rw [hh1]; exact ha) (by rw [hh1]; exact hb) (by rw [hh1, ea, eb]; exact hc), hh3, hhw]
theorem wst_ok {β : Type} {cs : List (Nat × Nat × CSem)} {rk : Nat} {mods : List Nat} {rl : Option (Nat × Value) → M β} {nx : Nat → TL → TL → M β} {op : Instr} {len pc : Nat} {ls st ls0 : TL} {I : MI} {r : β × MI} {m : MR} {d z : Nat} {o : Option Value × PH}
    (hz : pT[z]? = some m) (hrk : m.2.2.2.1 = rk) (hf : fetch pT z pc = some (op, len)) (hcs : AllS L X d cs)
    (hnx : ∀ pc ls st I, Ty ls → Ty st → Unm mods ls0 ls → nx pc ls st I = some r → At L X (d + 1) z pc ls st I o)
    (hrl : ∀ v I, tyO v → rl v I = some r → o = (v.map Prod.snd, HH I))
    (hls : Ty ls) (hst : Ty st) (hun : Unm mods ls0 ls) (hw : wst L X cs rk mods rl nx op len pc ls st I = some r) : At L X (d + 1) z pc ls st I o := by
  unfold wst at hw
  split at hw
  · -- aload
    rename_i i
    obtain ⟨t, a, hn, hw⟩ := gA_ok hw
    have e := nth_vs hn
    exact at_go hf rfl rfl (by show (match (vs ls)[i]? with | some (.ref a) => go (pc + len) (vs ls) (.ref a :: vs st) (HH I) | _ => none) = _; rw [e]; rfl) (hnx _ _ _ _ hls (by exact ⟨ty_nth hls hn, hst⟩) hun hw)
  · -- iload
    rename_i i
    obtain ⟨a, ⟨t, hn⟩, hw⟩ := gI_ok hw
    have e := nth_vs hn
    exact at_go hf rfl rfl (by show (match (vs ls)[i]? with | some (.int a) => go (pc + len) (vs ls) (.int a :: vs st) (HH I) | _ => none) = _; rw [e]; rfl) (hnx _ _ _ _ hls (by exact ⟨trivial, hst⟩) hun hw)
  · -- lload
    rename_i i
    obtain ⟨a, ⟨t, hn⟩, hw⟩ := gJ_ok hw
    have e := nth_vs hn
    exact at_go hf rfl rfl (by show (match (vs ls)[i]? with | some (.long a) => go (pc + len) (vs ls) (.long a :: vs st) (HH I) | _ => none) = _; rw [e]; rfl) (hnx _ _ _ _ hls (by exact ⟨trivial, hst⟩) hun hw)
  · -- astore
    rename_i i
    split at hw
    · rename_i t a st
      obtain ⟨h1, h2, h3, h4⟩ := wsv_ok hw hun hls hst.1
      exact at_go hf rfl rfl (by show (match st1 (vs ls) i (.ref a) with | some l => go (pc + len) l (vs st) (HH I) | none => none) = _; rw [h1]; rfl) (hnx _ _ _ _ h3 hst.2 h4 h2)
    · cases hw
  · -- istore
    rename_i i
    split at hw
    · rename_i t a st
      obtain ⟨h1, h2, h3, h4⟩ := wsv_ok hw hun hls (v := (0, .int a)) trivial
      exact at_go hf rfl rfl (by show (match st1 (vs ls) i (.int a) with | some l => go (pc + len) l (vs st) (HH I) | none => none) = _; rw [h1]; rfl) (hnx _ _ _ _ h3 hst.2 h4 h2)
    · cases hw
  · -- lstore
    rename_i i
    split at hw
    · rename_i t a st
      replace hw := mB_ok hw
      obtain ⟨hc, hw⟩ := hw
      · simp only [Bool.and_eq_true, decide_eq_true_eq] at hc
        obtain ⟨h1, h2, h3, h4⟩ := wsv_ok hw hun hls (v := (0, .long a)) trivial
        have h5 : st2 (vs ls) i (.long a) = some (vs (setL (setL ls i (0, .long a)) (i + 1) (0, dV))) := by
          unfold st1 at h1
          split at h1
          · rename_i h6
            simp only [Bool.and_eq_true, decide_eq_true_eq] at h6
            unfold st2
            rw [if_pos (by simp only [Bool.and_eq_true, decide_eq_true_eq]; exact ⟨by unfold vs; rw [List.length_map]; exact hc.2, h6.2⟩), vs_set, vs_set]
          · cases h1
        exact at_go hf rfl rfl (by show (match st2 (vs ls) i (.long a) with | some l => go (pc + len) l (vs st) (HH I) | none => none) = _; rw [h5]; rfl) (hnx _ _ _ _ (by exact ty_set h3 trivial) hst.2 (unm_set h4 hc.1) h2)
    · cases hw
  · -- iinc
    rename_i i n
    obtain ⟨x, ⟨t, hn⟩, hw⟩ := gI_ok hw
    have e := nth_vs hn
    obtain ⟨h1, h2, h3, h4⟩ := wsv_ok hw hun hls (v := (0, .int (x + i32 n))) trivial
    exact at_go hf rfl rfl (by show (match (vs ls)[i]? with | some (.int x) => (match st1 (vs ls) i (.int (x + i32 n)) with | some l => go (pc + len) l (vs st) (HH I) | none => none) | _ => none) = _; rw [e]; dsimp only; rw [h1]; rfl) (hnx _ _ _ _ h3 hst h4 h2)
  · exact at_go hf rfl rfl rfl (hnx _ _ _ _ hls (by exact ⟨trivial, hst⟩) hun hw)
  · exact at_go hf rfl rfl rfl (hnx _ _ _ _ hls (by exact ⟨rfl, hst⟩) hun hw)
  · exact at_go hf rfl rfl rfl (hnx _ _ _ _ hls (by exact ⟨trivial, hst⟩) hun hw)
  iterate 3
    · split at hw
      · exact at_go hf rfl rfl rfl (hnx _ _ _ _ hls (by exact ⟨trivial, hst.2.2⟩) hun hw)
      · cases hw
  iterate 2
    · split at hw
      · rename_i t1 y t2 x st
        replace hw := dvI_ok hw; obtain ⟨hy, hw⟩ := hw
        · skip
          exact at_go hf rfl rfl (by show goIf (!(decide (y = 0))) _ _ _ _ = _; rw [decide_eq_false hy]; rfl) (hnx _ _ _ _ hls (by exact ⟨trivial, hst.2.2⟩) hun hw)
      · cases hw
  · split at hw
    · exact at_go hf rfl rfl rfl (hnx _ _ _ _ hls (by exact ⟨trivial, hst.2⟩) hun hw)
    · cases hw
  iterate 8
    · split at hw
      · exact at_go hf rfl rfl rfl (hnx _ _ _ _ hls (by exact ⟨trivial, hst.2.2⟩) hun hw)
      · cases hw
  iterate 2
    · split at hw
      · rename_i t1 y t2 x st
        replace hw := dvJ_ok hw; obtain ⟨hy, hw⟩ := hw
        · skip
          exact at_go hf rfl rfl (by show goIf (!(decide (y = 0))) _ _ _ _ = _; rw [decide_eq_false hy]; rfl) (hnx _ _ _ _ hls (by exact ⟨trivial, hst.2.2⟩) hun hw)
      · cases hw
  · split at hw
    · exact at_go hf rfl rfl rfl (hnx _ _ _ _ hls (by exact ⟨trivial, hst.2.2⟩) hun hw)
    · cases hw
  iterate 2
    · split at hw
      · exact at_go hf rfl rfl rfl (hnx _ _ _ _ hls (by exact ⟨trivial, hst.2⟩) hun hw)
      · cases hw
  · -- pop
    split at hw
    · exact at_go hf rfl rfl rfl (hnx _ _ _ _ hls hst.2 hun hw)
    · cases hw
  · -- dup
    split at hw
    · exact at_go hf rfl rfl rfl (hnx _ _ _ _ hls (by exact ⟨trivial, trivial, hst.2⟩) hun hw)
    · exact at_go hf rfl rfl rfl (hnx _ _ _ _ hls (by exact ⟨hst.1, hst⟩) hun hw)
    · cases hw
  · -- dup2
    split at hw
    · exact at_go hf rfl rfl rfl (hnx _ _ _ _ hls (by exact ⟨trivial, hst.2.1, trivial, hst.2⟩) hun hw)
    · cases hw
  · exact at_go hf rfl rfl rfl (hnx _ _ _ _ hls hst hun hw)
  · -- ifCond
    split at hw
    · rename_i t x st
      refine at_if hf rfl rfl rfl (ls1 := ls) (st1 := st) (I1 := I) ?_
      rcases wbr_ok hw with ⟨e, h⟩ | ⟨e, h⟩
      · exact Or.inl ⟨e, hnx _ _ _ _ hls hst.2 hun h⟩
      · exact Or.inr ⟨e, hnx _ _ _ _ hls hst.2 hun h⟩
    · cases hw
  · -- if_icmp
    split at hw
    · rename_i t y t2 x st
      refine at_if hf rfl rfl rfl (ls1 := ls) (st1 := st) (I1 := I) ?_
      rcases wbr_ok hw with ⟨e, h⟩ | ⟨e, h⟩
      · exact Or.inl ⟨e, hnx _ _ _ _ hls hst.2.2 hun h⟩
      · exact Or.inr ⟨e, hnx _ _ _ _ hls hst.2.2 hun h⟩
    · cases hw
  · -- tableswitch
    split at hw
    · rename_i t x st
      replace hw := mB_ok hw; obtain ⟨hok, hw⟩ := hw
      · skip
        have h := wsw_ok (f := fun pc => nx pc ls st) hw
        rw [← sw_lk _ _ _ _ hok] at h
        exact at_go hf rfl rfl rfl (hnx _ _ _ _ hls hst.2 hun h)
    · cases hw
  · -- lookupswitch
    split at hw
    · rename_i t x st
      have h := wsw_ok (f := fun pc => nx pc ls st) hw
      exact at_go hf rfl rfl rfl (hnx _ _ _ _ hls hst.2 hun h)
    · cases hw
  · -- getfield
    rename_i n
    split at hw
    · rename_i t a st
      replace hw := mB_ok hw; obtain ⟨hb, hw⟩ := hw
      have et := Nat.eq_of_beq_eq_true hb
      have ha : okB (100 + n / 128) a = true := et ▸ hst.1
      cases hfy : Nat.beq (ftyOf pF (n / 128) (n % 128)) 2 with
      | true =>
        rw [hfy] at hw
        have hfy := Nat.eq_of_beq_eq_true hfy
        obtain ⟨⟨t2, md, x⟩, hfr, hw⟩ := oB_ok hw
        have hc := fty_lt (c := n / 128) (k := n % 128) (by rw [hfy]; decide)
        obtain ⟨h1, h2⟩ := gf_ref hfr hc ha
        exact at_go (p2 := pc + len) hf rfl rfl (stp_gr hfy (gf_obj hc ha) h1) (hnx _ _ _ _ hls (by exact ⟨h2, hst.2⟩) hun hw)
      | false =>
        rw [hfy] at hw
        dsimp only at hw
        replace hw := mB_ok hw; obtain ⟨hle, hw⟩ := hw
        have hle := Nat.le_of_ble_eq_true hle
        have hc := fty_lt (c := n / 128) (k := n % 128) (by omega)
        obtain ⟨v, I1, e1, h⟩ := bn_some hw
        cases e1
        exact at_go (p2 := pc + len) hf rfl rfl (stp_gi hle (gf_obj hc ha)) (hnx _ _ _ _ hls (by exact ⟨trivial, hst.2⟩) hun h)
    · cases hw
  · -- putfield
    rename_i n
    split at hw
    · rename_i t0 v t a st
      replace hw := mB_ok hw; obtain ⟨hb, hw⟩ := hw
      have et := Nat.eq_of_beq_eq_true hb
      have ha : okB (100 + n / 128) a = true := et ▸ hst.2.1
      cases hfy : Nat.beq (ftyOf pF (n / 128) (n % 128)) 0 with
      | true =>
        rw [hfy] at hw
        have hfy := Nat.eq_of_beq_eq_true hfy
        have hc := fty_lt (c := n / 128) (k := n % 128) (by rw [hfy]; decide)
        obtain ⟨u, I1, e1, h⟩ := bn_some hw
        cases e1
        exact at_go (p2 := pc + len) hf rfl rfl (stp_pi hfy (gf_obj hc ha)) (hnx _ _ _ _ hls hst.2.2 hun h)
      | false =>
        rw [hfy] at hw
        dsimp only at hw
        replace hw := mB_ok hw; obtain ⟨hfy, hw⟩ := hw
        have hfy := Nat.eq_of_beq_eq_true hfy
        have hc := fty_lt (c := n / 128) (k := n % 128) (by rw [hfy]; decide)
        obtain ⟨u, I1, e1, h⟩ := bn_some hw
        unfold wrZ at e1
        split at e1
        · rename_i hv
          cases e1
          have e2 : (decide (v = 0) || decide (v = 1)) = true := by simpa using hv
          exact at_go (p2 := pc + len) hf rfl rfl (stp_pz hfy e2 (gf_obj hc ha)) (hnx _ _ _ _ hls hst.2.2 hun h)
        · cases e1
    · cases hw
  · -- iaload
    split at hw
    · rename_i t0 i t a st
      obtain ⟨n, har, hw⟩ := oB_ok hw
      · skip
        obtain ⟨h1, h2⟩ := arS_ok har hst.2.1
        obtain ⟨v, I1, e1, h⟩ := bn_some hw
        unfold ld at e1
        cases hi : inR i n with
        | false => rw [hi] at e1; cases e1
        | true =>
          rw [hi] at e1
          cases e1
          exact at_go (p2 := pc + len) hf rfl rfl (stp_al h1 h2 hi) (hnx _ _ _ _ hls (by exact ⟨trivial, hst.2.2⟩) hun h)
    · cases hw
  · -- iastore
    split at hw
    · rename_i t0 v t1 i t a st
      obtain ⟨n, har, hw⟩ := oB_ok hw
      · skip
        obtain ⟨h1, h2⟩ := arS_ok har hst.2.2.1
        obtain ⟨u, I1, e1, h⟩ := bn_some hw
        unfold sr at e1
        cases hi : inR i n with
        | false => rw [hi] at e1; cases e1
        | true =>
          rw [hi] at e1
          cases e1
          exact at_go (p2 := pc + len) hf rfl rfl (stp_as h1 h2 hi) (hnx _ _ _ _ hls hst.2.2.2 hun h)
    · cases hw
  · -- aaload
    split at hw
    · rename_i t0 i t a st
      replace hw := mB_ok hw; obtain ⟨hb, hw⟩ := hw
      · skip
        have et := Nat.eq_of_beq_eq_true hb
        subst et
        have ha : a = 123 := Nat.eq_of_beq_eq_true hst.2.1
        subst ha
        obtain ⟨u, I1, e1, h⟩ := bn_some hw
        have hi := gd_ok e1
        · obtain ⟨hi, hr2⟩ := hi
          cases hr2
          have hr := List.all_eq_true.mp row_all _ (List.mem_range.mpr (inR_lt hi))
          simp only [Bool.and_eq_true, decide_eq_true_eq] at hr
          have h3 := rf0_at hr.1
          dsimp only at h3
          exact at_go (p2 := pc + len) hf rfl rfl (stp_aa hi h3) (hnx _ _ _ _ hls (by exact ⟨hr.2, hst.2.2⟩) hun h)
    · cases hw
  · -- arraylength
    split at hw
    · rename_i t a st
      obtain ⟨n, har, hw⟩ := oB_ok hw
      · skip
        obtain ⟨h1, h2⟩ := arS_ok har hst.1
        exact at_go (p2 := pc + len) hf rfl rfl (stp_ln h1 h2) (hnx _ _ _ _ hls (by exact ⟨trivial, hst.2⟩) hun hw)
    · cases hw
  · -- saload
    split at hw
    · rename_i t0 i t a st
      replace hw := mB_ok hw; obtain ⟨hb, hw⟩ := hw
      · skip
        have et := Nat.eq_of_beq_eq_true hb
        subst et
        have ha : a = 1000000 := Nat.eq_of_beq_eq_true hst.2.1
        subst ha
        obtain ⟨u, I1, e1, h⟩ := bn_some hw
        have hi := gd_ok e1
        · obtain ⟨hi, hr2⟩ := hi
          cases hr2
          refine at_go (p2 := pc + len) hf rfl rfl ?_ (hnx _ _ _ _ hls (by exact ⟨trivial, hst.2.2⟩) hun h)
          show goIf (decide ((1000000 : Nat) = 1000000) && inR i L) (pc + len) (vs ls) (.int (X i.toNatClampNeg) :: vs st) (HH I) = _
          rw [hi]
          rfl
    · cases hw
  · -- sastore
    split at hw
    · rename_i t a st
      replace hw := mB_ok hw; obtain ⟨hb, hw⟩ := hw
      · skip
        have et := Nat.eq_of_beq_eq_true hb
        subst et
        have ha : a = 1000000 := Nat.eq_of_beq_eq_true hst.1
        subst ha
        exact at_go hf rfl rfl rfl (hnx _ _ _ _ hls (by exact ⟨trivial, hst.2⟩) hun hw)
    · cases hw
  · -- arraycopy
    split at hw
    · rename_i t0 n t1 dp tb b t2 sp ta a st
      replace hw := mB_ok hw; obtain ⟨hlow, hw⟩ := hw
      · skip
        obtain ⟨na, ha, hw⟩ := oB_ok hw
        obtain ⟨nb, hb, hw⟩ := oB_ok hw
        · obtain ⟨a1, a2⟩ := arS_ok ha hst.2.2.2.2.1
          obtain ⟨b1, b2⟩ := arS_ok hb hst.2.2.1
          obtain ⟨u, I1, e1, h⟩ := bn_some hw
          unfold cpM at e1
          generalize hi : (!(decide (sp < 0)) && !(decide (dp < 0)) && !(decide (n < 0)) && decide (sp.toNatClampNeg + n.toNatClampNeg ≤ na) && decide (dp.toNatClampNeg + n.toNatClampNeg ≤ nb)) = bb at e1
          cases bb
          · cases e1
          · cases e1
            exact at_go (p2 := pc + len) hf rfl rfl (stp_cp (by exact (low_W st).trans hlow) a1 b1 a2 b2 hi) (hnx _ _ _ _ hls hst.2.2.2.2.2 hun h)
    · cases hw
  iterate 2
    · split at hw
      · rename_i t1 y t2 x st
        replace hw := mB_ok hw; obtain ⟨hlow, hw⟩ := hw
        · skip
          refine at_go (p2 := pc + len) hf rfl rfl ?_ (hnx _ _ _ _ hls (by exact ⟨trivial, hst.2.2⟩) hun hw)
          show goIf (low (vs st)) _ _ _ _ = _
          rw [low_W, hlow]
          rfl
      · cases hw
  · -- floorMod
    split at hw
    · rename_i t1 y t2 x st
      replace hw := mB_ok hw; obtain ⟨hlow, hw⟩ := hw
      · skip
        replace hw := dvI_ok hw; obtain ⟨hy, hw⟩ := hw
        · skip
          refine at_go (p2 := pc + len) hf rfl rfl ?_ (hnx _ _ _ _ hls (by exact ⟨trivial, hst.2.2⟩) hun hw)
          show goIf (low (vs st) && !(decide (y = 0))) _ _ _ _ = _
          rw [low_W, hlow, decide_eq_false hy]
          rfl
    · cases hw
  · -- length
    split at hw
    · rename_i t a st
      replace hw := mB_ok hw; obtain ⟨hc, hw⟩ := hw
      · skip
        simp only [Bool.and_eq_true] at hc
        have et := Nat.eq_of_beq_eq_true hc.2
        subst et
        have ha : a = 1000001 := Nat.eq_of_beq_eq_true hst.1
        subst ha
        refine at_go (p2 := pc + len) hf rfl rfl ?_ (hnx _ _ _ _ hls (by exact ⟨trivial, hst.2⟩) hun hw)
        show goIf (low (vs st) && decide ((1000001 : Nat) = 1000001)) _ _ _ _ = _
        rw [low_W, hc.1]
        rfl
    · cases hw
  · -- charAt
    split at hw
    · rename_i t0 i t a st
      replace hw := mB_ok hw; obtain ⟨hc, hw⟩ := hw
      · skip
        simp only [Bool.and_eq_true] at hc
        have et := Nat.eq_of_beq_eq_true hc.2
        subst et
        have ha : a = 1000001 := Nat.eq_of_beq_eq_true hst.2.1
        subst ha
        obtain ⟨u, I1, e1, h⟩ := bn_some hw
        have hi := gd_ok e1
        · obtain ⟨hi, hr2⟩ := hi
          cases hr2
          refine at_go (p2 := pc + len) hf rfl rfl ?_ (hnx _ _ _ _ hls (by exact ⟨trivial, hst.2.2⟩) hun h)
          show goIf (low (vs st) && decide ((1000001 : Nat) = 1000001) && inR i kwB.length) _ _ _ _ = _
          rw [low_W, hc.1, kwLen, hi]
          rfl
    · cases hw
  · -- max of longs
    split at hw
    · rename_i t1 y t2 x st
      replace hw := mB_ok hw; obtain ⟨hlow, hw⟩ := hw
      · skip
        refine at_go (p2 := pc + len) hf rfl rfl ?_ (hnx _ _ _ _ hls (by exact ⟨trivial, hst.2.2⟩) hun hw)
        show goIf (low (vs st)) _ _ _ _ = _
        rw [low_W, hlow]
        rfl
    · cases hw
  · -- return
    split at hw
    · replace hw := mB_ok hw; obtain ⟨hb, hw⟩ := hw
      · skip
        have e := hrl _ _ (by exact trivial) hw
        subst e
        exact seg_ret hf rfl hz (by rw [hrk, Nat.eq_of_beq_eq_true hb]; rfl)
    · cases hw
  · -- ireturn
    split at hw
    · rename_i t x
      split at hw
      · have e := hrl _ _ (by exact trivial) hw
        subst e
        exact seg_ret hf rfl hz (by rw [hrk]; rfl)
      · obtain ⟨u, I1, e1, h⟩ := bn_some hw
        unfold gdZ at e1
        split at e1
        · rename_i hx
          cases e1
          have e := hrl _ _ (by exact trivial) h
          subst e
          refine seg_ret hf rfl hz ?_
          rw [hrk]
          have e2 : (decide (x = 0) || decide (x = 1)) = true := by simpa using hx
          show (if (2 : Nat) = 1 then some (some (Value.int x)) else if (2 : Nat) = 2 then (if (decide (x = 0) || decide (x = 1)) = true then some (some (.int x)) else none) else none) = _
          rw [e2]
          rfl
        · cases e1
      · cases hw
    · cases hw
  · -- lreturn
    split at hw
    · replace hw := mB_ok hw; obtain ⟨hb, hw⟩ := hw
      · skip
        have e := hrl _ _ (by exact trivial) hw
        subst e
        exact seg_ret hf rfl hz (by rw [hrk, Nat.eq_of_beq_eq_true hb]; rfl)
    · cases hw
  · -- areturn
    split at hw
    · replace hw := mB_ok hw; obtain ⟨hb, hw⟩ := hw
      · skip
        have e := hrl _ _ (by exact hst.1) hw
        subst e
        exact seg_ret hf rfl hz (by rw [hrk, Nat.eq_of_beq_eq_true hb]; rfl)
    · cases hw
  iterate 3
    · obtain ⟨⟨na, c⟩, hq, hw⟩ := oB_ok hw
      replace hw := mB_ok hw; obtain ⟨hn, hw⟩ := hw
      exact at_call hf rfl rfl hcs hq hn hls hst hun hnx hw
  · cases hw
theorem wf_ok {β : Type} {cs : List (Nat × Nat × CSem)} {T : List (Nat × Instr × Nat)} {na mx rk rc : Nat} {mods cuts : List Nat} {lf : Nat → TL → TL → M β} {rl : Option (Nat × Value) → M β} {ls0 : TL} {r : β × MI} {d z : Nat} {o : Option Value × PH}
    (hz : pT[z]? = some (T, na, mx, rk, rc)) (hcs : AllS L X d cs)
    (hlf : ∀ pc ls st I, Ty ls → Ty st → Unm mods ls0 ls → lf pc ls st I = some r → At L X (d + 1) z pc ls st I o)
    (hrl : ∀ v I, tyO v → rl v I = some r → o = (v.map Prod.snd, HH I)) :
    ∀ (k pc : Nat) (ls st : TL) (I : MI), Ty ls → Ty st → Unm mods ls0 ls → wf L X T rk cs mods cuts lf rl k pc ls st I = some r → At L X (d + 1) z pc ls st I o := by
  intro k
  induction k with
  | zero => intro pc ls st I _ _ _ h; cases h
  | succ k ih =>
    intro pc ls st I h1 h2 h3 h
    unfold wf at h
    cases hlk : lookW T pc with
    | none => rw [hlk] at h; cases h
    | some q =>
      obtain ⟨op, len⟩ := q
      rw [hlk] at h
      dsimp only at h
      have hf : fetch pT z pc = some (op, len) := by
        unfold fetch
        rw [hz]
        show look T pc = _
        rw [← look_W]
        exact hlk
      refine wst_ok hz rfl hf hcs ?_ hrl h1 h2 h3 h
      intro pc ls st I g1 g2 g3 g
      cases hc : memN pc cuts with
      | true => rw [hc] at g; exact hlf _ _ _ _ g1 g2 g3 g
      | false => rw [hc] at g; exact ih _ _ _ _ g1 g2 g3 g
theorem unm_refl (mods : List Nat) (ls : TL) : Unm mods ls ls := ⟨rfl, fun _ _ => rfl⟩
end WF3
