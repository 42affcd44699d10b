/-! text: line by line -/
section TW99
theorem bn_rtR {α : Type} (m : M α) : (bn m fun v => rt v) = m := by
  funext K
  unfold bn
  cases m K <;> rfl
def rEnd (x : Int32) : M Int32 := bn (rd 207 17) fun v => if v = 0 then rt x else bn (F_R_errs 1) fun v2 => rt v2
def bodA (x1 : Int32) (lineA : M Int32) (y : Int32) : M (Int32 ⊕ Int32) :=
  (if (16 : Int32) < y then
    bn (F_Texts_take 15 x1 94) fun v1 =>
    rt (.inr v1)
  else
    bn (rd 93 10) fun v2 =>
    bn (ld 401 107 v2) fun v3 =>
    (if v3 = 0 then
      bn (F_Texts_take 15 x1 94) fun v4 =>
      rt (.inr v4)
    else
      bn lineA fun v8 =>
        (if v8 = 0 then
          rt (.inr (-1 : Int32))
        else
          rt (.inl (y + (1 : Int32))))))
theorem bod_0 : B_Reader_read_46 0 = bodA 0 F_Reader_lawLine := rfl
theorem bod_1 : B_Reader_read_46 1 = bodA 1 F_Reader_shareLine := rfl
theorem bod_2 : B_Reader_read_46 2 = bodA 2 F_Reader_diaryLine := rfl
theorem bod_3 : B_Reader_read_46 3 = bodA 3 F_Reader_wayLine := rfl
theorem text_go {X : CX} (hX : Cxt X) {S : Nat → Nat → MI → MI → Prop} {w : Nat → Prop} {x1 : Int32} {lineA : M Int32} {Bt : Int32 → M (Int32 ⊕ (Int32 ⊕ Int32))}
    (hS : ∀ n c I J, S n c I J → n ≤ 16 ∧ ∃ D, LK X D c I J) (hw : ∀ c, w c → ¬ KD X c = 0)
    (hyes : ∀ n c I J, S n c I J → w c → Ok2 lineA (Bt (nn n)) I J (bR X S n c))
    (hno : ∀ n c I J, S n c I J → ¬ w c → Bt (nn n) J = some (.inr (.inl (nn n)), J) ∧ ∃ I1 J1, lineA I = some (0, I1) ∧ F_R_errs 1 J = some (-1, J1) ∧ ER X I1 J1) :
    ∀ (Mm n c : Nat) (I J : MI) (Na N : Nat), 401 ≤ Mm + c → S n c I J → 401 < Na + c → 401 < N + c →
    (∃ I1 J1, lp (bodA x1 lineA) Na (nn n) I = some (-1, I1) ∧ bn (lp Bt N (nn n)) (Sum.elim rEnd rt) J = some (-1, J1) ∧ ER X I1 J1) ∨
    (∃ n' c' I1 J1, S n' c' I1 J1 ∧ lp (bodA x1 lineA) Na (nn n) I = F_Texts_take 15 x1 94 I1 ∧ bn (lp Bt N (nn n)) (Sum.elim rEnd rt) J = some (nn n', J1)) := by
  intro Mm
  induction Mm with
  | zero =>
    intro n c I J Na N hM hs
    obtain ⟨h16, D, hL⟩ := hS n c I J hs
    have := lk_c hX hL
    omega
  | succ Mm ih =>
    intro n c I J Na N hM hs hNa hN
    obtain ⟨h16, D, hL⟩ := hS n c I J hs
    have hc := lk_c hX hL
    obtain ⟨Na, rfl⟩ : ∃ N', Na = N' + 1 := ⟨Na - 1, by omega⟩
    obtain ⟨N, rfl⟩ : ∃ N', N = N' + 1 := ⟨N - 1, by omega⟩
    have n16 : ¬ (16 : Int32) < nn n := fun z => by have := (nn_lt (j := 16) (by omega) (by omega)).mp z; omega
    have hA : bodA x1 lineA (nn n) I = (if KD X c = 0 then
        bn (F_Texts_take 15 x1 94) fun v4 => rt (.inr v4)
      else
        bn lineA fun v8 => (if v8 = 0 then rt (.inr (-1 : Int32)) else rt (.inl (nn n + (1 : Int32))))) I := by
      unfold bodA
      rw [if_neg n16, bn_rd, bn_of (kind_A hX hL)]
    by_cases hwc : w c
    · have k0 := hw c hwc
      rw [if_neg k0] at hA
      obtain ⟨r, I1, s, J1, p1, p2, p3⟩ := hyes n c I J hs hwc
      rcases p3 with ⟨rfl, rfl, hE⟩ | ⟨rfl, rfl, c', hc', hs'⟩
      · refine Or.inl ⟨I1, J1, ?_, ?_, hE⟩
        · have st : bodA x1 lineA (nn n) I = some (.inr (-1), I1) := by
            rw [hA, bn_of p1, if_pos rfl]; rfl
          rw [lp_e, bn_of st]; rfl
        · rw [lp_bn, bn_of p2]; rfl
      · have st : bodA x1 lineA (nn n) I = some (.inl (nn (n + 1)), I1) := by
          rw [hA, bn_of p1, if_neg one_ne, nn_s]; rfl
        have e1 : lp (bodA x1 lineA) (Na + 1) (nn n) I = lp (bodA x1 lineA) Na (nn (n + 1)) I1 := by
          rw [lp_e, bn_of st]; rfl
        have e2 : bn (lp Bt (N + 1) (nn n)) (Sum.elim rEnd rt) J = bn (lp Bt N (nn (n + 1))) (Sum.elim rEnd rt) J1 := by
          rw [lp_bn, bn_of p2]; rfl
        rw [e1, e2]
        exact ih (n + 1) c' I1 J1 Na N (by omega) hs' (by omega) (by omega)
    · obtain ⟨p1, I1, J1, f1, f2, f3⟩ := hno n c I J hs hwc
      have e2 : bn (lp Bt (N + 1) (nn n)) (Sum.elim rEnd rt) J = rEnd (nn n) J := by
        rw [lp_bn, bn_of p1]; rfl
      rw [e2]
      unfold rEnd
      rw [bn_rd, kind_R hL]
      by_cases k0 : KD X c = 0
      · rw [if_pos k0] at hA
        refine Or.inr ⟨n, c, I, J, hs, ?_, ?_⟩
        · rw [lp_e]
          have e : bn (bodA x1 lineA (nn n)) (Sum.elim (lp (bodA x1 lineA) Na) rt) I = bn (bn (F_Texts_take 15 x1 94) fun v4 => rt (.inr v4)) (Sum.elim (lp (bodA x1 lineA) Na) rt) I := bn_cg hA
          rw [e, bn_bn]
          have e3 : (bn (F_Texts_take 15 x1 94) fun x => bn (rt (Sum.inr x)) (Sum.elim (lp (bodA x1 lineA) Na) rt)) = F_Texts_take 15 x1 94 := bn_rtR _
          rw [e3]
        · rw [if_pos (kR_0.mpr k0)]; rfl
      · rw [if_neg k0] at hA
        refine Or.inl ⟨I1, J1, ?_, ?_, f3⟩
        · have st : bodA x1 lineA (nn n) I = some (.inr (-1), I1) := by
            rw [hA, bn_of f1, if_pos rfl]; rfl
          rw [lp_e, bn_of st]; rfl
        · rw [if_neg fun z => k0 (kR_0.mp z), bn_of f2]; rfl
end TW99
