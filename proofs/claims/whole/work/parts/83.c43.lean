/-! an image: where the reference lays what it keeps -/
section SC43
def dmL : List (Nat × Nat × Nat × Nat) := [(208, 95, 0, 1), (242, 2, 108, 1), (212, 18, 110, 3), (213, 18, 111, 3), (214, 18, 112, 3), (211, 6, 164, 3), (241, 6, 165, 3), (250, 6, 166, 3), (228, 10, 182, 9), (231, 10, 183, 9), (232, 10, 184, 9), (235, 10, 185, 9), (236, 10, 186, 9), (238, 10, 187, 9), (239, 10, 188, 9), (240, 10, 189, 9), (248, 10, 190, 9), (244, 8, 272, 3), (245, 8, 273, 3), (246, 8, 274, 3), (243, 24, 296, 1), (226, 64, 320, 1), (227, 80, 384, 1), (215, 750, 464, 1), (218, 1, 1214, 1), (219, 16, 1215, 4), (220, 16, 1216, 4), (221, 16, 1217, 4), (222, 16, 1218, 4), (223, 400, 1279, 2), (224, 400, 1280, 2)]
def dmF : List Nat := [6, 7, 36, 38, 40, 44, 49, 53, 57, 61, 63, 67, 70]
def fpos : List Nat → Nat → Nat → Nat
  | [], _, _ => 5000
  | f :: r, k, p => if k = f then p else fpos r k (p + 1)
def dpos : List (Nat × Nat × Nat × Nat) → Nat → Nat → Nat
  | [], _, _ => 5000
  | e :: r, a, k => if a = e.1 then (if k < e.2.1 then e.2.2.1 + e.2.2.2 * k else 5000) else dpos r a k
def dm (a k : Nat) : Nat := if a = 207 then fpos dmF k 95 else dpos dmL a k
def cellOf (p : Nat) : Nat × Nat := if p < 95 then (208, p) else if p < 108 then (207, dmF.getD (p - 95) 0) else if p < 110 then (242, p - 108) else if p < 164 then (212 + (p - 110) % 3, (p - 110) / 3) else if p < 182 then ([211, 241, 250].getD ((p - 164) % 3) 0, (p - 164) / 3) else if p < 272 then ([228, 231, 232, 235, 236, 238, 239, 240, 248].getD ((p - 182) % 9) 0, (p - 182) / 9) else if p < 296 then (244 + (p - 272) % 3, (p - 272) / 3) else if p < 320 then (243, p - 296) else if p < 384 then (226, p - 320) else if p < 464 then (227, p - 384) else if p < 1214 then (215, p - 464) else if p < 1215 then (218, 0) else if p < 1279 then (219 + (p - 1215) % 4, (p - 1215) / 4) else (223 + (p - 1279) % 2, (p - 1279) / 2)
theorem cell_all : dmL.all (fun e => (List.range e.2.1).all fun k => decide (cellOf (e.2.2.1 + e.2.2.2 * k) = (e.1, k) ∧ e.2.2.1 + e.2.2.2 * k < 2079)) = true := by decide +kernel
theorem cell_fld : dmF.all (fun f => decide (cellOf (fpos dmF f 95) = (207, f) ∧ fpos dmF f 95 < 108)) = true := by decide +kernel
theorem fpos_in : ∀ {l : List Nat} {k p : Nat}, fpos l k p < 5000 → k ∈ l := by
  intro l
  induction l with
  | nil => intro k p h; exact absurd h (by unfold fpos; omega)
  | cons f r ih =>
    intro k p h
    unfold fpos at h
    by_cases e : k = f
    · rw [e]; exact List.mem_cons_self
    · rw [if_neg e] at h; exact List.mem_cons_of_mem _ (ih h)
theorem dpos_in : ∀ {l : List (Nat × Nat × Nat × Nat)} {a k : Nat}, dpos l a k < 5000 → ∃ e, e ∈ l ∧ e.1 = a ∧ k < e.2.1 ∧ dpos l a k = e.2.2.1 + e.2.2.2 * k := by
  intro l
  induction l with
  | nil => intro a k h; exact absurd h (by unfold dpos; omega)
  | cons e r ih =>
    intro a k h
    unfold dpos at h ⊢
    by_cases h1 : a = e.1
    · rw [if_pos h1] at h ⊢
      by_cases h2 : k < e.2.1
      · rw [if_pos h2]; exact ⟨e, List.mem_cons_self, h1.symm, h2, rfl⟩
      · rw [if_neg h2] at h; exact absurd h (by omega)
    · rw [if_neg h1] at h ⊢
      obtain ⟨e2, q1, q2, q3, q4⟩ := ih h
      exact ⟨e2, List.mem_cons_of_mem _ q1, q2, q3, q4⟩
theorem dm_cell {a k : Nat} (h : dm a k < 5000) : cellOf (dm a k) = (a, k) ∧ dm a k < 2079 := by
  unfold dm at h ⊢
  by_cases h1 : a = 207
  · rw [if_pos h1] at h ⊢
    have q := of_decide_eq_true (List.all_eq_true.mp cell_fld k (fpos_in h))
    exact ⟨by rw [q.1, h1], by omega⟩
  · rw [if_neg h1] at h ⊢
    obtain ⟨e, q1, q2, q3, q4⟩ := dpos_in h
    rw [q4]
    have q := of_decide_eq_true (List.all_eq_true.mp (List.all_eq_true.mp cell_all e q1) k (List.mem_range.mpr q3))
    exact ⟨by rw [q.1, q2], q.2⟩
theorem dm_inj {a k a1 k1 : Nat} (h : dm a k = dm a1 k1) (hl : dm a k < 2079) : a = a1 ∧ k = k1 := by
  have q1 := (dm_cell (a := a) (k := k) (by omega)).1
  have q2 := (dm_cell (a := a1) (k := k1) (by omega)).1
  rw [h, q2] at q1
  injection q1 with e1 e2
  exact ⟨e1.symm, e2.symm⟩
theorem dm_at {a n b s k : Nat} (he : (a, n, b, s) ∈ dmL) (hk : k < n) : dm a k = b + s * k ∧ b + s * k < 2079 := by
  have key : dm a k = b + s * k := by
    have ha : a ≠ 207 := by
      have hall : ∀ e, e ∈ dmL → e.1 ≠ 207 := by decide
      exact hall _ he
    unfold dm
    rw [if_neg ha]
    simp only [dmL, List.mem_cons, List.mem_nil_iff, or_false, Prod.mk.injEq] at he
    rcases he with ⟨rfl, rfl, rfl, rfl⟩ | ⟨rfl, rfl, rfl, rfl⟩ | ⟨rfl, rfl, rfl, rfl⟩ | ⟨rfl, rfl, rfl, rfl⟩ | ⟨rfl, rfl, rfl, rfl⟩ | ⟨rfl, rfl, rfl, rfl⟩ | ⟨rfl, rfl, rfl, rfl⟩ | ⟨rfl, rfl, rfl, rfl⟩ | ⟨rfl, rfl, rfl, rfl⟩ | ⟨rfl, rfl, rfl, rfl⟩ | ⟨rfl, rfl, rfl, rfl⟩ | ⟨rfl, rfl, rfl, rfl⟩ | ⟨rfl, rfl, rfl, rfl⟩ | ⟨rfl, rfl, rfl, rfl⟩ | ⟨rfl, rfl, rfl, rfl⟩ | ⟨rfl, rfl, rfl, rfl⟩ | ⟨rfl, rfl, rfl, rfl⟩ | ⟨rfl, rfl, rfl, rfl⟩ | ⟨rfl, rfl, rfl, rfl⟩ | ⟨rfl, rfl, rfl, rfl⟩ | ⟨rfl, rfl, rfl, rfl⟩ | ⟨rfl, rfl, rfl, rfl⟩ | ⟨rfl, rfl, rfl, rfl⟩ | ⟨rfl, rfl, rfl, rfl⟩ | ⟨rfl, rfl, rfl, rfl⟩ | ⟨rfl, rfl, rfl, rfl⟩ | ⟨rfl, rfl, rfl, rfl⟩ | ⟨rfl, rfl, rfl, rfl⟩ | ⟨rfl, rfl, rfl, rfl⟩ | ⟨rfl, rfl, rfl, rfl⟩ | ⟨rfl, rfl, rfl, rfl⟩ <;>
      simp (decide := true) only [dmL, dpos, if_true, if_false, if_pos hk]
  rw [key]
  have h2 := dm_cell (a := a) (k := k) (by
    rw [key]
    have q := of_decide_eq_true (List.all_eq_true.mp (List.all_eq_true.mp cell_all _ he) k (List.mem_range.mpr hk))
    have q2 : b + s * k < 2079 := q.2
    omega)
  rw [key] at h2
  exact ⟨rfl, h2.2⟩
theorem imV_dm {Z : Nat → Int32} {a k : Nat} (h : dm a k < 2079) : imV Z a k = Z (dm a k) := by
  by_cases h1 : a = 207
  · subst h1
    have hk : k ∈ dmF := fpos_in (l := dmF) (p := 95) (by have : dm 207 k = fpos dmF k 95 := rfl; omega)
    have hall : ∀ f, f ∈ dmF → imV Z 207 f = Z (dm 207 f) := by
      intro f hf
      simp only [dmF, List.mem_cons, List.mem_nil_iff, or_false] at hf
      rcases hf with rfl | rfl | rfl | rfl | rfl | rfl | rfl | rfl | rfl | rfl | rfl | rfl | rfl <;> rfl
    exact hall k hk
  · have h2 : dm a k = dpos dmL a k := if_neg h1
    obtain ⟨e, q1, q2, q3, q4⟩ := dpos_in (l := dmL) (a := a) (k := k) (by omega)
    obtain ⟨c, n, b, s⟩ := e
    have q2' : c = a := q2
    have q3' : k < n := q3
    subst q2'
    rw [(dm_at q1 q3').1]
    simp only [dmL, List.mem_cons, List.mem_nil_iff, or_false, Prod.mk.injEq] at q1
    rcases q1 with ⟨rfl, rfl, rfl, rfl⟩ | ⟨rfl, rfl, rfl, rfl⟩ | ⟨rfl, rfl, rfl, rfl⟩ | ⟨rfl, rfl, rfl, rfl⟩ | ⟨rfl, rfl, rfl, rfl⟩ | ⟨rfl, rfl, rfl, rfl⟩ | ⟨rfl, rfl, rfl, rfl⟩ | ⟨rfl, rfl, rfl, rfl⟩ | ⟨rfl, rfl, rfl, rfl⟩ | ⟨rfl, rfl, rfl, rfl⟩ | ⟨rfl, rfl, rfl, rfl⟩ | ⟨rfl, rfl, rfl, rfl⟩ | ⟨rfl, rfl, rfl, rfl⟩ | ⟨rfl, rfl, rfl, rfl⟩ | ⟨rfl, rfl, rfl, rfl⟩ | ⟨rfl, rfl, rfl, rfl⟩ | ⟨rfl, rfl, rfl, rfl⟩ | ⟨rfl, rfl, rfl, rfl⟩ | ⟨rfl, rfl, rfl, rfl⟩ | ⟨rfl, rfl, rfl, rfl⟩ | ⟨rfl, rfl, rfl, rfl⟩ | ⟨rfl, rfl, rfl, rfl⟩ | ⟨rfl, rfl, rfl, rfl⟩ | ⟨rfl, rfl, rfl, rfl⟩ | ⟨rfl, rfl, rfl, rfl⟩ | ⟨rfl, rfl, rfl, rfl⟩ | ⟨rfl, rfl, rfl, rfl⟩ | ⟨rfl, rfl, rfl, rfl⟩ | ⟨rfl, rfl, rfl, rfl⟩ | ⟨rfl, rfl, rfl, rfl⟩ | ⟨rfl, rfl, rfl, rfl⟩
    all_goals first
      | (rw [show k = 0 by omega]; rfl)
      | rfl
      | (rw [Nat.one_mul]; rfl)
      | (rw [Nat.one_mul, Nat.zero_add]; rfl)
/-- the reference after so many kept -/
def KI (m : Int32) (J0 : MI) (c : Nat) (J : MI) : Prop := J 207 74 = m ∧ J 207 76 = nn c ∧ ((m = 0 ∧ J 253 = J0 253 ∧ ∀ a k, a ≠ 253 → ¬ (a = 207 ∧ k = 76) → J a k = if dm a k < c then J0 253 (dm a k) else J0 a k) ∨ (m = 1 ∧ (∀ a k, a ≠ 253 → ¬ (a = 207 ∧ k = 76) → J a k = J0 a k) ∧ ∀ a k, dm a k < c → J 253 (dm a k) = J0 a k))
theorem ki_next {m : Int32} {J0 J J1 : MI} {c a i : Nat} (h : KI m J0 c J) (hd : dm a i = c) (hc : c < 2079) (ha : a ≠ 253) (hi : ¬ (a = 207 ∧ i = 76)) (p1 : J1 207 74 = m) (p2 : J1 207 76 = nn (c + 1))
    (p3 : ∀ b k, b ≠ 253 → ¬ (b = 207 ∧ k = 76) → J1 b k = if b = a ∧ k = i then (if m = 0 then J 253 c else J a i) else J b k) (p4 : J1 253 = if m = 0 then J 253 else upd (J 253) c (J a i)) : KI m J0 (c + 1) J1 := by
  obtain ⟨h1, h2, h3⟩ := h
  have inj : ∀ b k, dm b k = c → b = a ∧ k = i := fun b k q => dm_inj (q.trans hd.symm) (by omega)
  refine ⟨p1, p2, ?_⟩
  rcases h3 with ⟨hm, hz, hv⟩ | ⟨hm, hv, hz⟩
  · refine Or.inl ⟨hm, by rw [p4, if_pos hm, hz], fun b k n1 n2 => ?_⟩
    rw [p3 b k n1 n2, if_pos hm]
    by_cases e : b = a ∧ k = i
    · rw [if_pos e, hz, e.1, e.2, hd, if_pos (by omega)]
    · rw [if_neg e, hv b k n1 n2]
      have ne : dm b k ≠ c := fun q => e (inj b k q)
      by_cases q : dm b k < c
      · rw [if_pos q, if_pos (by omega)]
      · rw [if_neg q, if_neg (by omega)]
  · have m0 : ¬ m = 0 := by rw [hm]; decide
    refine Or.inr ⟨hm, fun b k n1 n2 => ?_, fun b k q => ?_⟩
    · rw [p3 b k n1 n2, if_neg m0]
      by_cases e : b = a ∧ k = i
      · rw [if_pos e, e.1, e.2, hv a i ha hi]
      · rw [if_neg e, hv b k n1 n2]
    · rw [p4, if_neg m0]
      by_cases e : dm b k = c
      · obtain ⟨e1, e2⟩ := inj b k e
        rw [e, upd_eq, hv a i ha hi, e1, e2]
      · rw [upd_ne _ _ e]; exact hz b k (by omega)
theorem kept_0 {J : MI} {c : Nat} {v : Int32} (hc : c < 2079) (h1 : J 207 74 = 0) (h2 : J 207 76 = nn c) : F_R_kept v J = some (J 253 c, bup J 207 (upd (J 207) 76 (nn (c + 1)))) := by
  have e1 : nn (c + 1) - 1 = nn c := nn_sub (j := c + 1) (k := 1) (by omega)
  have e2 : inR (nn c) 2400 = true := inR_nn (by omega) (by omega)
  have e3 : (nn c).toNatClampNeg = c := nn_nat (by omega)
  have hO : Ok (F_R_kept v) J fun u K => u = J 253 c ∧ K = bup J 207 (upd (J 207) 76 (nn (c + 1))) := by
    unfold F_R_kept
    simp (decide := true) only [ok_bn, ok_rd, ok_wr, ok_ld, ok_rt, ok_ite, h1, h2, nn_s, bup_eq, bup_ne, upd_eq, upd_ne, e1, e2, e3, if_true, true_and, and_self]
  obtain ⟨u, K, q, rfl, rfl⟩ := hO
  exact q
theorem kept_1 {J : MI} {c : Nat} {v : Int32} (hc : c < 2079) (h1 : J 207 74 = 1) (h2 : J 207 76 = nn c) : F_R_kept v J = some (v, bup (bup J 207 (upd (J 207) 76 (nn (c + 1)))) 253 (upd (J 253) c v)) := by
  have e1 : nn (c + 1) - 1 = nn c := nn_sub (j := c + 1) (k := 1) (by omega)
  have e2 : inR (nn c) 2400 = true := inR_nn (by omega) (by omega)
  have e3 : (nn c).toNatClampNeg = c := nn_nat (by omega)
  have hO : Ok (F_R_kept v) J fun u K => u = v ∧ K = bup (bup J 207 (upd (J 207) 76 (nn (c + 1)))) 253 (upd (J 253) c v) := by
    unfold F_R_kept
    simp (decide := true) only [ok_bn, ok_rd, ok_wr, ok_sr, ok_rt, ok_ite, h1, h2, nn_s, bup_eq, bup_ne, upd_eq, upd_ne, e1, e2, e3, if_false, true_and, and_self]
  obtain ⟨u, K, q, rfl, rfl⟩ := hO
  exact q
theorem kstep {m : Int32} {J0 J : MI} {c a i n : Nat} {y : Int32} {α : Type} {f : Unit → M α} {Q : α → MI → Prop} (h : KI m J0 c J) (hy : y = nn i) (hi : i < n) (hn : n ≤ 2000) (hd : dm a i = c) (hc : c < 2079) (ha : a ≠ 253 ∧ a ≠ 207) (k : ∀ J1, KI m J0 (c + 1) J1 → Ok (f ()) J1 Q) : Ok (bn (ld n a y) fun v => bn (F_R_kept v) fun u => bn (sr n a y u) f) J Q := by
  have h0 := h
  obtain ⟨h1, h2, h3⟩ := h
  have e1 : inR (nn i) n = true := inR_nn hi (by omega)
  have e2 : (nn i).toNatClampNeg = i := nn_nat (by omega)
  subst hy
  rcases h3 with ⟨rfl, -⟩ | ⟨rfl, -⟩
  · simp only [ok_bn, ok_ld, e1, e2, true_and, ok_eq (kept_0 (v := J a i) hc h1 h2), ok_sr]
    refine k _ (ki_next h0 hd hc ha.1 (fun q => ha.2 q.1) ?_ ?_ (fun b l n1 n2 => ?_) ?_)
    · rw [bup_ne _ _ (Ne.symm ha.2), bup_eq, upd_ne _ _ (by decide)]; exact h1
    · rw [bup_ne _ _ (Ne.symm ha.2), bup_eq, upd_eq]
    · rw [if_pos rfl]
      by_cases eb : b = a
      · subst eb
        rw [bup_eq, bup_ne J _ (show b ≠ 207 from ha.2)]
        by_cases el : l = i
        · subst el; rw [upd_eq, if_pos ⟨rfl, rfl⟩]
        · rw [upd_ne _ _ el, if_neg (fun q => el q.2)]
      · rw [bup_ne _ _ eb, if_neg (fun q => eb q.1)]
        by_cases e7 : b = 207
        · subst e7; rw [bup_eq, upd_ne _ _ (fun q => n2 ⟨rfl, q⟩)]
        · rw [bup_ne _ _ e7]
    · rw [bup_ne _ _ (Ne.symm ha.1), bup_ne _ _ (by decide), if_pos rfl]
  · simp only [ok_bn, ok_ld, e1, e2, true_and, ok_eq (kept_1 (v := J a i) hc h1 h2), ok_sr]
    refine k _ (ki_next h0 hd hc ha.1 (fun q => ha.2 q.1) ?_ ?_ (fun b l n1 n2 => ?_) ?_)
    · rw [bup_ne _ _ (Ne.symm ha.2), bup_ne _ _ (by decide), bup_eq, upd_ne _ _ (by decide)]; exact h1
    · rw [bup_ne _ _ (Ne.symm ha.2), bup_ne _ _ (by decide), bup_eq, upd_eq]
    · rw [if_neg (show ¬ (1 : Int32) = 0 by decide)]
      by_cases eb : b = a
      · subst eb
        rw [bup_eq, bup_ne _ _ n1, bup_ne J _ (show b ≠ 207 from ha.2)]
        by_cases el : l = i
        · subst el; rw [upd_eq, if_pos ⟨rfl, rfl⟩]
        · rw [upd_ne _ _ el, if_neg (fun q => el q.2)]
      · rw [bup_ne _ _ eb, bup_ne _ _ n1, if_neg (fun q => eb q.1)]
        by_cases e7 : b = 207
        · subst e7; rw [bup_eq, upd_ne _ _ (fun q => n2 ⟨rfl, q⟩)]
        · rw [bup_ne _ _ e7]
    · rw [bup_ne _ _ (Ne.symm ha.1), bup_eq, if_neg (show ¬ (1 : Int32) = 0 by decide)]
theorem kfld {m : Int32} {J0 J : MI} {c i : Nat} {α : Type} {f : Unit → M α} {Q : α → MI → Prop} (h : KI m J0 c J) (hd : dm 207 i = c) (hc : c < 2079) (hi : i ≠ 74 ∧ i ≠ 76) (k : ∀ J1, KI m J0 (c + 1) J1 → Ok (f ()) J1 Q) : Ok (bn (rd 207 i) fun v => bn (F_R_kept v) fun u => bn (wr 207 i u) f) J Q := by
  have h0 := h
  obtain ⟨h1, h2, h3⟩ := h
  rcases h3 with ⟨rfl, -⟩ | ⟨rfl, -⟩
  · simp only [ok_bn, ok_rd, ok_eq (kept_0 (v := J 207 i) hc h1 h2), ok_wr]
    refine k _ (ki_next h0 hd hc (by decide) (fun q => hi.2 q.2) ?_ ?_ (fun b l n1 n2 => ?_) ?_)
    · rw [bup_eq, upd_ne _ _ (Ne.symm hi.1), bup_eq, upd_ne _ _ (by decide)]; exact h1
    · rw [bup_eq, upd_ne _ _ (Ne.symm hi.2), bup_eq, upd_eq]
    · rw [if_pos rfl]
      by_cases eb : b = 207
      · subst eb
        rw [bup_eq, bup_eq]
        by_cases el : l = i
        · subst el; rw [upd_eq, if_pos ⟨rfl, rfl⟩]
        · rw [upd_ne _ _ el, if_neg (fun q => el q.2), upd_ne _ _ (fun q => n2 ⟨rfl, q⟩)]
      · rw [bup_ne _ _ eb, if_neg (fun q => eb q.1), bup_ne _ _ eb]
    · rw [bup_ne _ _ (by decide), bup_ne _ _ (by decide), if_pos rfl]
  · simp only [ok_bn, ok_rd, ok_eq (kept_1 (v := J 207 i) hc h1 h2), ok_wr]
    refine k _ (ki_next h0 hd hc (by decide) (fun q => hi.2 q.2) ?_ ?_ (fun b l n1 n2 => ?_) ?_)
    · rw [bup_eq, upd_ne _ _ (Ne.symm hi.1), bup_ne _ _ (by decide), bup_eq, upd_ne _ _ (by decide)]; exact h1
    · rw [bup_eq, upd_ne _ _ (Ne.symm hi.2), bup_ne _ _ (by decide), bup_eq, upd_eq]
    · rw [if_neg (show ¬ (1 : Int32) = 0 by decide)]
      by_cases eb : b = 207
      · subst eb
        rw [bup_eq, bup_ne _ _ (by decide), bup_eq]
        by_cases el : l = i
        · subst el; rw [upd_eq, if_pos ⟨rfl, rfl⟩]
        · rw [upd_ne _ _ el, if_neg (fun q => el q.2), upd_ne _ _ (fun q => n2 ⟨rfl, q⟩)]
      · rw [bup_ne _ _ eb, bup_ne _ _ n1, if_neg (fun q => eb q.1), bup_ne _ _ eb]
    · rw [bup_ne _ _ (by decide), bup_eq, if_neg (show ¬ (1 : Int32) = 0 by decide)]
end SC43
