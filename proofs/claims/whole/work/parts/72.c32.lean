/-! the law: class and reference -/
section SC32
def sOK : List Nat → (Nat → Int32) → Prop
  | [], _ => True
  | x :: r, f => ((x = 1 → f r.length = 0 ∨ f r.length = 1) ∧ (x = 2 → ¬ f r.length = 0)) ∧ sOK r f
theorem sOK_congr {f g : Nat → Int32} : ∀ {st : List Nat}, (∀ i, i < st.length → g i = f i) → sOK st f → sOK st g := by
  intro st
  induction st with
  | nil => intro _ _; trivial
  | cons x r ih =>
    intro h q
    obtain ⟨q, s⟩ := q
    refine ⟨?_, ih (fun i hi => h i (by rw [List.length_cons]; omega)) s⟩
    rw [h r.length (by rw [List.length_cons]; omega)]
    exact q
theorem sOK_push {f : Nat → Int32} {st : List Nat} {t : Nat} {V : Int32} (h : sOK st f) (h1 : t = 1 → V = 0 ∨ V = 1) (h2 : t = 2 → ¬ V = 0) : sOK (t :: st) (upd f st.length V) := by
  refine ⟨?_, sOK_congr (fun i hi => upd_ne _ _ (by omega)) h⟩
  rw [upd_eq]
  exact ⟨h1, h2⟩
def SK (st : List Nat) (I J : MI) : Prop := sOK st (J 230) ∧ ∀ i, i < st.length → I 20 i = J 230 i
theorem SK_push {st : List Nat} {t : Nat} {V : Int32} {I J : MI} (h : SK st I J) (h1 : t = 1 → V = 0 ∨ V = 1) (h2 : t = 2 → ¬ V = 0) : SK (t :: st) (bup I 20 (upd (I 20) st.length V)) (bup J 230 (upd (J 230) st.length V)) := by
  refine ⟨?_, fun i hi => ?_⟩
  · rw [bup_eq]; exact sOK_push h.1 h1 h2
  · rw [bup_eq, bup_eq]
    rw [List.length_cons] at hi
    by_cases e : i = st.length
    · rw [e, upd_eq, upd_eq]
    · rw [upd_ne _ _ e, upd_ne _ _ e]; exact h.2 i (by omega)
theorem SK_tl {st : List Nat} {x : Nat} {I J : MI} (h : SK (x :: st) I J) : SK st I J := ⟨h.1.2, fun i hi => h.2 i (by rw [List.length_cons]; omega)⟩
theorem bit01 {A B : Int32} (hA : A = 0 ∨ A = 1) (hB : B = 0 ∨ B = 1) : A &&& B = A * B ∧ (A * B = 0 ∨ A * B = 1) ∧ A ||| B = (if 0 < A + B then 1 else 0) := by
  rcases hA with rfl | rfl <;> rcases hB with rfl | rfl <;> decide
theorem op2 {v x y : Nat} {r st1 : List Nat} {a A B : Int32} (hv : 2 ≤ v) (hv2 : v < 12) (h9 : v ≠ 9) (h : tyStep (nn v) a (x :: y :: r) = some st1) (hB1 : x = 1 → B = 0 ∨ B = 1) (hB2 : x = 2 → ¬ B = 0) (hA1 : y = 1 → A = 0 ∨ A = 1) : ∃ t V, st1 = t :: r ∧ F_Law_joined (codOf (nn v) a) A B = rt V ∧ F_R_twoOf (nn v) A B = rt V ∧ (t = 1 → V = 0 ∨ V = 1) ∧ (t = 2 → ¬ V = 0) := by
  have b01 : ∀ {c : Prop} [Decidable c], (if c then (1 : Int32) else 0) = 0 ∨ (if c then (1 : Int32) else 0) = 1 := by
    intro c _
    by_cases hc : c
    · rw [if_pos hc]; exact Or.inr rfl
    · rw [if_neg hc]; exact Or.inl rfl
  have rti : ∀ {c : Prop} [Decidable c], (if c then rt (1 : Int32) else rt 0 : M Int32) = rt (if c then 1 else 0) := by
    intro c _
    by_cases hc : c
    · rw [if_pos hc, if_pos hc]
    · rw [if_neg hc, if_neg hc]
  have hv3 : v = 2 ∨ v = 3 ∨ v = 4 ∨ v = 5 ∨ v = 6 ∨ v = 7 ∨ v = 8 ∨ v = 10 ∨ v = 11 := by omega
  rcases hv3 with rfl | rfl | rfl | rfl | rfl | rfl | rfl | rfl | rfl
  · unfold tyStep at h
    simp (decide := true) only [if_true, if_false, true_or, or_true, or_false, false_or] at h
    split at h
    · cases h
      refine ⟨0, A + B, rfl, ?_, ?_, (fun q => by cases q), (fun q => by cases q)⟩
      · unfold F_Law_joined codOf; simp (decide := true) only [if_true, if_false]
      · unfold F_R_twoOf; simp (decide := true) only [if_true, if_false]
    · cases h
  · unfold tyStep at h
    simp (decide := true) only [if_true, if_false, true_or, or_true, or_false, false_or] at h
    split at h
    · cases h
      refine ⟨0, A - B, rfl, ?_, ?_, (fun q => by cases q), (fun q => by cases q)⟩
      · unfold F_Law_joined codOf; simp (decide := true) only [if_true, if_false]
      · unfold F_R_twoOf; simp (decide := true) only [if_true, if_false]
    · cases h
  · unfold tyStep at h
    simp (decide := true) only [if_true, if_false, true_or, or_true, or_false, false_or] at h
    split at h
    · cases h
      refine ⟨0, A * B, rfl, ?_, ?_, (fun q => by cases q), (fun q => by cases q)⟩
      · unfold F_Law_joined codOf; simp (decide := true) only [if_true, if_false]
      · unfold F_R_twoOf; simp (decide := true) only [if_true, if_false]
    · cases h
  · unfold tyStep at h
    simp (decide := true) only [if_true, if_false, true_or, or_true, or_false, false_or] at h
    split at h
    · rename_i hx
      cases h
      have hB := hB2 hx.1
      refine ⟨0, A / B, rfl, ?_, ?_, (fun q => by cases q), (fun q => by cases q)⟩
      · unfold F_Law_joined codOf; simp (decide := true) only [if_true, if_false, if_neg hB, dvI_ne _ hB]
      · unfold F_R_twoOf; simp (decide := true) only [if_true, if_false, dvI_ne _ hB]
    · cases h
  · unfold tyStep at h
    simp (decide := true) only [if_true, if_false, true_or, or_true, or_false, false_or] at h
    split at h
    · cases h
      refine ⟨1, if A < B then 1 else 0, rfl, ?_, ?_, fun _ => b01, (fun q => by cases q)⟩
      · unfold F_Law_joined codOf; simp (decide := true) only [if_true, if_false]; exact rti
      · unfold F_R_twoOf; simp (decide := true) only [if_true, if_false]; exact rti
    · cases h
  · unfold tyStep at h
    simp (decide := true) only [if_true, if_false, true_or, or_true, or_false, false_or] at h
    split at h
    · cases h
      refine ⟨1, if A = B then 1 else 0, rfl, ?_, ?_, fun _ => b01, (fun q => by cases q)⟩
      · unfold F_Law_joined codOf; simp (decide := true) only [if_true, if_false]; exact rti
      · unfold F_R_twoOf; simp (decide := true) only [if_true, if_false]; exact rti
    · cases h
  · unfold tyStep at h
    simp (decide := true) only [if_true, if_false, true_or, or_true, or_false, false_or] at h
    split at h
    · cases h
      refine ⟨1, if B < A then 1 else 0, rfl, ?_, ?_, fun _ => b01, (fun q => by cases q)⟩
      · unfold F_Law_joined codOf; simp (decide := true) only [if_true, if_false]; exact rti
      · unfold F_R_twoOf; simp (decide := true) only [if_true, if_false]; exact rti
    · cases h
  · unfold tyStep at h
    simp (decide := true) only [if_true, if_false, true_or, or_true, or_false, false_or] at h
    split at h
    · rename_i hx
      cases h
      obtain ⟨q1, q2, -⟩ := bit01 (hA1 hx.2) (hB1 hx.1)
      refine ⟨1, A * B, rfl, ?_, ?_, fun _ => q2, (fun q => by cases q)⟩
      · unfold F_Law_joined codOf; simp (decide := true) only [if_true, if_false]; rw [q1]
      · unfold F_R_twoOf; simp (decide := true) only [if_true, if_false]
    · cases h
  · unfold tyStep at h
    simp (decide := true) only [if_true, if_false, true_or, or_true, or_false, false_or] at h
    split at h
    · rename_i hx
      cases h
      obtain ⟨-, -, q1⟩ := bit01 (hA1 hx.2) (hB1 hx.1)
      refine ⟨1, if 0 < A + B then 1 else 0, rfl, ?_, ?_, fun _ => b01, (fun q => by cases q)⟩
      · unfold F_Law_joined codOf; simp (decide := true) only [if_true, if_false]; rw [q1]
      · unfold F_R_twoOf; simp (decide := true) only [if_true, if_false]; exact rti
    · cases h
theorem two_st {v : Nat} {a : Int32} {st s : List Nat} (hv : 2 ≤ v) (hv2 : v < 12) (h9 : v ≠ 9) (h : tyStep (nn v) a st = some s) : ∃ x y r, st = x :: y :: r := by
  have n0 : ¬ nn v = 0 := nn_ne (k := 0) (by omega) (by omega) (by omega)
  have n1 : ¬ nn v = 1 := nn_ne (k := 1) (by omega) (by omega) (by omega)
  have n9 : ¬ nn v = 9 := nn_ne (k := 9) (by omega) (by omega) h9
  unfold tyStep at h
  rw [if_neg n0, if_neg n1] at h
  match st, h with
  | [], h => cases h
  | [x], h => exact absurd h (by
      show ¬ (if nn v = 9 ∧ x = 1 then some [1] else none) = some s
      rw [if_neg (fun q => n9 q.1)]
      intro q; cases q)
  | x :: y :: r, _ => exact ⟨x, y, r, rfl⟩
theorem not_st {a : Int32} {st s : List Nat} (h : tyStep 9 a st = some s) : ∃ r, st = 1 :: r ∧ s = 1 :: r := by
  unfold tyStep at h
  rw [if_neg (by decide), if_neg (by decide)] at h
  match st, h with
  | [], h => cases h
  | [x], h =>
    have h2 : (if (9 : Int32) = 9 ∧ x = 1 then some [1] else none) = some s := h
    split at h2
    · rename_i q
      cases h2
      exact ⟨[], by rw [q.2], rfl⟩
    · cases h2
  | x :: y :: r, h =>
    simp (decide := true) only [if_true, if_false, true_or, or_true, or_false, false_or] at h
    split at h
    · rename_i q
      cases h
      exact ⟨y :: r, by rw [q], rfl⟩
    · cases h
theorem psh_st {o a : Int32} {st s : List Nat} (ho : o = 0 ∨ o = 1) (h : tyStep o a st = some s) : st.length < 40 ∧ s = (if o = 0 then (if a = 0 then 0 else 2) else 0) :: st := by
  unfold tyStep at h
  rcases ho with rfl | rfl
  · rw [if_pos rfl] at h
    split at h
    · rename_i q
      cases h
      exact ⟨q, by rw [if_pos rfl]⟩
    · cases h
  · rw [if_neg (by decide), if_pos rfl] at h
    split at h
    · rename_i q
      cases h
      exact ⟨q.1, by rw [if_neg (by decide)]⟩
    · cases h
theorem w_cod : ∀ j, j < 9 → (-20 : Int32) - (-27 - nn j) = nn (7 + j) ∧ (-27 : Int32) - nn j < 0 ∧ ¬ (-20 : Int32) < -27 - nn j := by decide
theorem pm1 {k : Nat} (h : 1 ≤ k) : nn k + (-1 : Int32) = nn (k - 1) := by
  rw [← Int32.sub_eq_add_neg]
  exact nn_sub (k := 1) h
theorem b_cod : ∀ v, v < 12 → 2 ≤ v → (codOf (nn v) 0 < 0 ∧ (-20 : Int32) < codOf (nn v) 0) ∧ (codOf (nn v) 0 = -8 ↔ v = 9) := by decide
theorem c_cod {v : Nat} (a : Int32) (h2 : 2 ≤ v) (h12 : v < 12) : codOf (nn v) a = codOf (nn v) 0 := by
  have n0 : ¬ nn v = 0 := nn_ne (k := 0) (by omega) (by omega) (by omega)
  have n1 : ¬ nn v = 1 := nn_ne (k := 1) (by omega) (by omega) (by omega)
  unfold codOf
  rw [if_neg n0, if_neg n0, if_neg n1, if_neg n1]
end SC32
