/-! a stock becomes another -/
section SC46
theorem cp_nn {na nb a b n : Nat} (h1 : n ≤ na) (h2 : n ≤ nb) (hn : n < 2 ^ 31) (K : MI) : cpM na nb a 0 b 0 (nn n) K = some ((), bup K b fun k => if k < n then K a k else K b k) := by
  have e0 : (0 : Int32).toNatClampNeg = 0 := by decide
  have d0 : decide ((0 : Int32) < 0) = false := by decide
  unfold cpM
  rw [e0, d0, nn_nat hn, decide_eq_false (nn_neg hn), decide_eq_true (show 0 + n ≤ na by omega), decide_eq_true (show 0 + n ≤ nb by omega), cpy_0]
  rfl
def TabOK (t0 t1 : Nat) (I I1 : MI) : Prop := I1 t0 3 = I t1 3 ∧ I1 t0 0 = I t0 0 ∧ I1 t0 1 = I t0 1 ∧ ∀ k, k < (I t1 3).toNatClampNeg * (I t0 0).toNatClampNeg → I1 (t0 + 1) k = I (t1 + 1) k
def tOff : List Nat := [16, 20, 22, 24, 26, 28, 30, 32, 34, 36, 38, 40, 42, 44]
def SG (r0 r1 o : Nat) (I I1 : MI) : Prop := (∀ a, (a ≤ r0 ∨ r0 + o ≤ a) → I1 a = I a) ∧ (12 ≤ o → ∀ a, r0 < a → a < r0 + 12 → I1 a = bcS I (r0 + 1) (r1 + 1) 10 a) ∧ (14 ≤ o → ∀ k, k < 750 → I1 (r0 + 13) k = I (r1 + 13) k) ∧ (∀ t, t ∈ tOff → t + 2 ≤ o → TabOK (r0 + t) (r1 + t) I I1) ∧ (19 ≤ o → I1 (r0 + 15) 1 = I (r1 + 15) 1 ∧ ∀ k, k < 400 → I1 (r0 + 18) k = I (r1 + 18) k)
theorem sg_up {r0 r1 o p : Nat} {I I1 I2 : MI} (h : SG r0 r1 o I I1) (ho1 : 1 ≤ o) (hop : o ≤ p) (hf : ∀ a, (a < r0 + o ∨ r0 + p ≤ a) → I2 a = I1 a) (h12 : 12 ≤ p → 12 ≤ o ∨ ∀ a, r0 < a → a < r0 + 12 → I2 a = bcS I (r0 + 1) (r1 + 1) 10 a) (h14 : 14 ≤ p → 14 ≤ o ∨ ∀ k, k < 750 → I2 (r0 + 13) k = I (r1 + 13) k) (ht : ∀ t, t ∈ tOff → t + 2 ≤ p → t + 2 ≤ o ∨ TabOK (r0 + t) (r1 + t) I I2) (h19 : 19 ≤ p → 19 ≤ o ∨ (I2 (r0 + 15) 1 = I (r1 + 15) 1 ∧ ∀ k, k < 400 → I2 (r0 + 18) k = I (r1 + 18) k)) : SG r0 r1 p I I2 := by
  obtain ⟨g1, g2, g3, g4, g5⟩ := h
  refine ⟨fun a ha => ?_, fun hp a h1 h2 => ?_, fun hp k hk => ?_, fun t ht1 ht2 => ?_, fun hp => ?_⟩
  · rw [hf a (by omega)]; exact g1 a (by omega)
  · rcases h12 hp with q | q
    · rw [hf a (by omega)]; exact g2 q a h1 h2
    · exact q a h1 h2
  · rcases h14 hp with q | q
    · rw [hf (r0 + 13) (by omega)]; exact g3 q k hk
    · exact q k hk
  · rcases ht t ht1 ht2 with q | q
    · obtain ⟨e1, e2, e3, e4⟩ := g4 t ht1 q
      have f0 : I2 (r0 + t) = I1 (r0 + t) := hf _ (by omega)
      have f1 : I2 (r0 + t + 1) = I1 (r0 + t + 1) := hf _ (by omega)
      refine ⟨by rw [f0]; exact e1, by rw [f0]; exact e2, by rw [f0]; exact e3, fun k hk => ?_⟩
      rw [f1]; exact e4 k hk
    · exact q
  · rcases h19 hp with q | q
    · rw [hf (r0 + 15) (by omega), hf (r0 + 18) (by omega)]; exact g5 q
    · exact q
theorem sg_tab {r0 r1 o n w : Nat} {I I1 : MI} {α : Type} {f : Unit → M α} {Q : α → MI → Prop} (hr : r0 = 1 ∧ r1 = 47 ∨ r0 = 47 ∧ r1 = 1) (h : SG r0 r1 o I I1) (ho : o ∈ tOff) (ho2 : 16 ≤ o ∧ o ≤ 44) (hp : o = 16 ∨ 19 ≤ o) (hodd : ∀ t, t ∈ tOff → t + 2 ≤ o + 2 → t + 2 ≤ o ∨ t = o) (h3 : I (r1 + o) 3 = nn n) (h0 : I (r0 + o) 0 = nn w) (hs : siz shT (r1 + o + 1) = siz shT (r0 + o + 1)) (hb : n * w ≤ siz shT (r0 + o + 1)) (hb2 : n * w < 2 ^ 31) (hn : n < 2 ^ 31) (hw : w < 2 ^ 31) (k : ∀ I2, SG r0 r1 (o + 2) I I2 → Ok (f ()) I2 Q) : Ok (bn (F_Table_become (r0 + o) (r1 + o)) f) I1 Q := by
  have e1 : I1 (r1 + o) = I (r1 + o) := h.1 _ (by omega)
  have e1' : I1 (r1 + o + 1) = I (r1 + o + 1) := h.1 _ (by omega)
  have e2 : I1 (r0 + o) = I (r0 + o) := h.1 _ (by omega)
  have e2' : I1 (r0 + o + 1) = I (r0 + o + 1) := h.1 _ (by omega)
  have h3' : I1 (r1 + o) 3 = nn n := by rw [e1]; exact h3
  have h0' : I1 (r0 + o) 0 = nn w := by rw [e2]; exact h0
  have b0 : (bup I1 (r0 + o) (upd (I1 (r0 + o)) 3 (nn n))) (r0 + o) 0 = nn w := by rw [bup_eq, upd_ne _ _ (by decide)]; exact h0'
  have b3 : (bup I1 (r0 + o) (upd (I1 (r0 + o)) 3 (nn n))) (r0 + o) 3 = nn n := by rw [bup_eq, upd_eq]
  unfold F_Table_become
  simp only [ok_bn, ok_ite, if_pos (congrArg Int32.ofNat hs), ok_rd, ok_wr, h3', b0, b3, nn_mul]
  rw [ok_eq (cp_nn (na := siz shT (r1 + o + 1)) (nb := siz shT (r0 + o + 1)) (a := r1 + o + 1) (b := r0 + o + 1) (by rw [hs]; exact hb) hb hb2 _)]
  simp only [ok_rt]
  refine k _ (sg_up h (by omega) (by omega) (fun a ha => ?_) (fun _ => Or.inl (by omega)) (fun _ => Or.inl (by omega)) (fun t q1 q2 => ?_) (fun _ => by
    rcases hp with q | q
    · omega
    · exact Or.inl q))
  · rw [bup_ne _ _ (by omega), bup_ne _ _ (by omega)]
  · rcases hodd t q1 q2 with q | q
    · exact Or.inl q
    · subst q
      have n1 : r0 + t ≠ r0 + t + 1 := by omega
      refine Or.inr ⟨?_, ?_, ?_, fun j hj => ?_⟩
      · rw [bup_ne _ _ n1, bup_eq, upd_eq, h3]
      · rw [bup_ne _ _ n1, bup_eq, upd_ne _ _ (by decide), e2]
      · rw [bup_ne _ _ n1, bup_eq, upd_ne _ _ (by decide), e2]
      · rw [h3, h0, nn_nat hn, nn_nat hw] at hj
        rw [bup_eq, if_pos hj, bup_ne _ _ (by omega), e1']
theorem sg_skip {r0 r1 o p : Nat} {I I1 : MI} (h : SG r0 r1 o I I1) (hop : o ≤ p) (h12 : 12 ≤ o) (h14 : 14 ≤ o) (ht : ∀ t, t ∈ tOff → t + 2 ≤ p → t + 2 ≤ o) (h19 : 19 ≤ p → 19 ≤ o) : SG r0 r1 p I I1 :=
  sg_up h (by omega) hop (fun _ _ => rfl) (fun _ => Or.inl h12) (fun _ => Or.inl h14) (fun t q1 q2 => Or.inl (ht t q1 q2)) (fun q => Or.inl (h19 q))
theorem sg_12 {r0 r1 : Nat} {I : MI} : SG r0 r1 12 I (bcS I (r0 + 1) (r1 + 1) 10) := by
  have lo : ∀ t, t ∈ tOff → 16 ≤ t := by decide
  refine ⟨fun a ha => bcS_o (by omega), fun _ a _ _ => rfl, fun h => absurd h (by decide), fun t h1 h2 => ?_, fun h => absurd h (by decide)⟩
  have := lo t h1
  omega
theorem sg_14 {r0 r1 : Nat} {I I1 : MI} (hr : r0 = 1 ∧ r1 = 47 ∨ r0 = 47 ∧ r1 = 1) (h : SG r0 r1 12 I I1) : SG r0 r1 14 I (bup I1 (r0 + 13) fun k => if k < 750 then I1 (r1 + 13) k else I1 (r0 + 13) k) := by
  have lo : ∀ t, t ∈ tOff → 16 ≤ t := by decide
  have e1 : I1 (r1 + 13) = I (r1 + 13) := h.1 _ (by omega)
  refine sg_up h (by decide) (by decide) (fun a ha => bup_ne _ _ (by omega)) (fun _ => Or.inl (by decide)) (fun _ => Or.inr fun k hk => ?_) (fun t h1 h2 => ?_) (fun q => absurd q (by decide))
  · rw [bup_eq, if_pos hk, e1]
  · have := lo t h1
    omega
theorem sg_19 {r0 r1 : Nat} {I I1 : MI} (hr : r0 = 1 ∧ r1 = 47 ∨ r0 = 47 ∧ r1 = 1) (h : SG r0 r1 18 I I1) : SG r0 r1 19 I (bup (bup I1 (r0 + 15) (upd (I1 (r0 + 15)) 1 (I1 (r1 + 15) 1))) (r0 + 18) fun k => if k < 400 then (bup I1 (r0 + 15) (upd (I1 (r0 + 15)) 1 (I1 (r1 + 15) 1))) (r1 + 18) k else (bup I1 (r0 + 15) (upd (I1 (r0 + 15)) 1 (I1 (r1 + 15) 1))) (r0 + 18) k) := by
  obtain ⟨g1, g2, g3, g4, g5⟩ := h
  have e1 : I1 (r1 + 15) = I (r1 + 15) := g1 _ (by omega)
  have e2 : I1 (r1 + 18) = I (r1 + 18) := g1 _ (by omega)
  refine ⟨fun a ha => ?_, fun _ a h1 h2 => ?_, fun _ k hk => ?_, fun t h1 h2 => ?_, fun _ => ⟨?_, fun k hk => ?_⟩⟩
  · rw [bup_ne _ _ (by omega), bup_ne _ _ (by omega)]; exact g1 a (by omega)
  · rw [bup_ne _ _ (by omega), bup_ne _ _ (by omega)]; exact g2 (by decide) a h1 h2
  · rw [bup_ne _ _ (by omega), bup_ne _ _ (by omega)]; exact g3 (by decide) k hk
  · have lo : ∀ t, t ∈ tOff → t + 2 ≤ 19 → t = 16 := by decide
    have e := lo t h1 h2
    subst e
    obtain ⟨p1, p2, p3, p4⟩ := g4 16 h1 (by decide)
    refine ⟨?_, ?_, ?_, fun k hk => ?_⟩
    · rw [bup_ne _ _ (by omega), bup_ne _ _ (by omega)]; exact p1
    · rw [bup_ne _ _ (by omega), bup_ne _ _ (by omega)]; exact p2
    · rw [bup_ne _ _ (by omega), bup_ne _ _ (by omega)]; exact p3
    · rw [bup_ne _ _ (by omega), bup_ne _ _ (by omega)]; exact p4 k hk
  · rw [bup_ne _ _ (by omega), bup_eq, upd_eq, e1]
  · rw [bup_eq, if_pos hk, bup_ne _ _ (by omega), e2]
theorem tx_on {r0 r1 N : Nat} {y : Int32} {I : MI} {Q : Unit → MI → Prop} (hy : ¬ 3 < y) (h : Ok (F_Texts_take r0 y r1) I fun _ I1 => Ok (lp (B_Texts_become_2 r0 r1) N (y + 1)) I1 Q) : Ok (lp (B_Texts_become_2 r0 r1) (N + 1) y) I Q := by
  rw [lp_s, ok_bn]
  unfold B_Texts_become_2
  rw [ok_ite, if_neg hy, ok_bn]
  refine ok_mono h fun _ I1 q => ?_
  rw [ok_rt]
  exact q
theorem tx_end {r0 r1 N : Nat} {y : Int32} {I : MI} {Q : Unit → MI → Prop} (hy : 3 < y) (h : Q () I) : Ok (lp (B_Texts_become_2 r0 r1) (N + 1) y) I Q := by
  rw [lp_s, ok_bn]
  unfold B_Texts_become_2
  rw [ok_ite, if_pos hy, ok_rt, ok_rt]
  exact h
end SC46
