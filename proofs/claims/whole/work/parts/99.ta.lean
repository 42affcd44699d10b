/-! text: class and reference side by side -/
section TJ99
def Ok2 {α β : Type} (F : M α) (G : M β) (I J : MI) (P : α → β → MI → MI → Prop) : Prop := ∃ r I1 s J1, F I = some (r, I1) ∧ G J = some (s, J1) ∧ P r s I1 J1
theorem o2_bn {α β γ δ : Type} {F : M α} {G : M β} {f : α → M γ} {g : β → M δ} {I J : MI} {P : α → β → MI → MI → Prop} {Q : γ → δ → MI → MI → Prop} (h : Ok2 F G I J P) (k : ∀ r s I1 J1, P r s I1 J1 → Ok2 (f r) (g s) I1 J1 Q) : Ok2 (bn F f) (bn G g) I J Q := by
  obtain ⟨r, I1, s, J1, h1, h2, h3⟩ := h
  obtain ⟨r2, I2, s2, J2, k1, k2, k3⟩ := k r s I1 J1 h3
  exact ⟨r2, I2, s2, J2, by rw [bn_of h1]; exact k1, by rw [bn_of h2]; exact k2, k3⟩
theorem o2L {α γ δ : Type} {F : M α} {f : α → M γ} {G : M δ} {I I1 J : MI} {r : α} {Q : γ → δ → MI → MI → Prop} (h : F I = some (r, I1)) : Ok2 (bn F f) G I J Q ↔ Ok2 (f r) G I1 J Q := by
  constructor
  · rintro ⟨r2, I2, s2, J2, k1, k2, k3⟩
    rw [bn_of h] at k1
    exact ⟨r2, I2, s2, J2, k1, k2, k3⟩
  · rintro ⟨r2, I2, s2, J2, k1, k2, k3⟩
    exact ⟨r2, I2, s2, J2, by rw [bn_of h]; exact k1, k2, k3⟩
theorem o2R {β γ δ : Type} {F : M γ} {G : M β} {g : β → M δ} {I J J1 : MI} {s : β} {Q : γ → δ → MI → MI → Prop} (h : G J = some (s, J1)) : Ok2 F (bn G g) I J Q ↔ Ok2 F (g s) I J1 Q := by
  constructor
  · rintro ⟨r2, I2, s2, J2, k1, k2, k3⟩
    rw [bn_of h] at k2
    exact ⟨r2, I2, s2, J2, k1, k2, k3⟩
  · rintro ⟨r2, I2, s2, J2, k1, k2, k3⟩
    exact ⟨r2, I2, s2, J2, k1, by rw [bn_of h]; exact k2, k3⟩
theorem o2_rt {α β : Type} {x : α} {y : β} {I J : MI} {P : α → β → MI → MI → Prop} : Ok2 (rt x) (rt y) I J P ↔ P x y I J := by
  constructor
  · rintro ⟨r2, I2, s2, J2, k1, k2, k3⟩
    cases k1; cases k2; exact k3
  · intro h; exact ⟨x, I, y, J, rfl, rfl, h⟩
theorem o2_mono {α β : Type} {F : M α} {G : M β} {I J : MI} {P Q : α → β → MI → MI → Prop} (h : Ok2 F G I J P) (k : ∀ r s I1 J1, P r s I1 J1 → Q r s I1 J1) : Ok2 F G I J Q := by
  obtain ⟨r, I1, s, J1, h1, h2, h3⟩ := h
  exact ⟨r, I1, s, J1, h1, h2, k _ _ _ _ h3⟩
theorem bn_cg {α β : Type} {m m' : M α} {f : α → M β} {I I' : MI} (h : m I = m' I') : bn m f I = bn m' f I' := by
  unfold bn
  rw [h]
theorem o2_eq {α β : Type} {F F' : M α} {G G' : M β} {I I' J J' : MI} {P : α → β → MI → MI → Prop} (h1 : F I = F' I') (h2 : G J = G' J') (h : Ok2 F' G' I' J' P) : Ok2 F G I J P := by
  obtain ⟨r, I1, s, J1, k1, k2, k3⟩ := h
  exact ⟨r, I1, s, J1, by rw [h1]; exact k1, by rw [h2]; exact k2, k3⟩
theorem o2_ok {α β : Type} {F : M α} {G : M β} {I J : MI} {P : α → β → MI → MI → Prop} (h : Ok2 F G I J P) : Ok F I fun r I1 => Ok G J fun s J1 => P r s I1 J1 := by
  obtain ⟨r, I1, s, J1, k1, k2, k3⟩ := h
  exact ⟨r, I1, k1, s, J1, k2, k3⟩
theorem e_ld {n a : Nat} {i : Int32} {I : MI} (h : inR i n = true) : ld n a i I = some (I a i.toNatClampNeg, I) := by unfold ld; rw [h]
theorem e_sr {n a : Nat} {i x : Int32} {I : MI} (h : inR i n = true) : sr n a i x I = some ((), bup I a (upd (I a) i.toNatClampNeg x)) := by unfold sr; rw [h]
theorem e_rd {a k : Nat} {I : MI} : rd a k I = some (I a k, I) := rfl
theorem e_wr {a k : Nat} {x : Int32} {I : MI} : wr a k x I = some ((), bup I a (upd (I a) k x)) := rfl
/-! what stays while a text is read: all but the readers' own -/
def kpI (a k : Nat) : Bool := if a = 93 then !(decide (k = 1 ∨ k = 2 ∨ k = 10 ∨ k = 11)) else if a = 95 then !(decide (k = 1)) else if a = 96 ∨ a = 100 ∨ a = 102 ∨ a = 104 then !(decide (k = 3)) else !(decide (a = 97 ∨ a = 98 ∨ a = 101 ∨ a = 103 ∨ a = 105))
def kpJ (a k : Nat) : Bool := if a = 207 then !(decide (k = 15 ∨ k = 16 ∨ k = 17 ∨ k = 18 ∨ k = 28 ∨ k = 29 ∨ k = 31 ∨ k = 32 ∨ k = 33)) else if a = 219 ∨ a = 220 ∨ a = 221 ∨ a = 222 then decide (k < 32) else if a = 223 ∨ a = 224 then decide (k < 800) else if a = 226 then decide (k < 64) else if a = 227 then decide (k < 80) else if a = 228 then decide (k < 10) else !(decide (a = 225))
def FI (I0 I : MI) : Prop := ∀ a k, kpI a k = true → I a k = I0 a k
def FJ (J0 J : MI) : Prop := ∀ a k, kpJ a k = true → J a k = J0 a k
theorem fi_set {I0 I : MI} {a k : Nat} {x : Int32} (h : FI I0 I) (hk : kpI a k = false) : FI I0 (bup I a (upd (I a) k x)) := by
  intro b j hb
  by_cases e : b = a
  · subst e
    rw [bup_eq, upd_ne _ _ (fun e => by rw [e, hk] at hb; cases hb)]
    exact h b j hb
  · rw [bup_ne _ _ e]; exact h b j hb
theorem fj_set {J0 J : MI} {a k : Nat} {x : Int32} (h : FJ J0 J) (hk : kpJ a k = false) : FJ J0 (bup J a (upd (J a) k x)) := by
  intro b j hb
  by_cases e : b = a
  · subst e
    rw [bup_eq, upd_ne _ _ (fun e => by rw [e, hk] at hb; cases hb)]
    exact h b j hb
  · rw [bup_ne _ _ e]; exact h b j hb
theorem fi_row {I0 I : MI} {a : Nat} {g : Nat → Int32} (h : FI I0 I) (hk : ∀ k, kpI a k = false) : FI I0 (bup I a g) := by
  intro b j hb
  by_cases e : b = a
  · subst e; rw [hk j] at hb; cases hb
  · rw [bup_ne _ _ e]; exact h b j hb
/-- text, its length, the last token, both memories at the start -/
abbrev CX := (Nat → Int32) × Nat × Nat × MI × MI
def KD (X : CX) (c : Nat) : Int32 := tkK X.1 X.2.1 (stc X.1 X.2.1 c)
def VL (X : CX) (c : Nat) : Int32 := tkV X.1 X.2.1 (stc X.1 X.2.1 c)
def Cxt (X : CX) : Prop := X.2.1 ≤ 400 ∧ X.2.2.1 ≤ X.2.1 ∧ tkI X.1 X.2.1 X.2.2.2.1 (X.2.2.1 + 1) ∧ (∀ k, k < X.2.2.1 → stc X.1 X.2.1 k < X.2.1) ∧ stc X.1 X.2.1 X.2.2.1 = X.2.1 ∧ X.2.2.2.2 207 14 = nn X.2.1 ∧ (∀ k, k < X.2.1 → X.2.2.2.2 216 k = X.1 k) ∧ (∀ k, k < X.2.1 → ¬ X.1 k = -1) ∧ ∀ k, k < 124 → X.2.2.2.2 217 k = wdC k
def cA (X : CX) (c : Nat) (I : MI) : Prop := I 93 10 = nn c ∧ I 93 1 = 0 ∧ I 93 2 = -1 ∧ FI X.2.2.2.1 I
def cR (X : CX) (c : Nat) (J : MI) : Prop := J 207 15 = nn (tkN X.1 X.2.1 (stc X.1 X.2.1 c)) ∧ J 207 16 = nn (stc X.1 X.2.1 c) ∧ J 207 17 = kR (KD X c) (VL X c) ∧ ((KD X c = 2 ∨ KD X c = 3 ∨ KD X c = 4) → J 207 18 = VL X c) ∧ FJ X.2.2.2.2 J
/-- what a step leaves as it is -/
def stab (D : MI → MI → Prop) : Prop := ∀ I J I1 J1, (∀ a, 94 ≤ a → a ≤ 105 → I1 a = I a) → (∀ a, 219 ≤ a → a ≤ 228 → J1 a = J a) → (∀ k, k = 28 ∨ k = 29 ∨ k = 31 → J1 207 k = J 207 k) → D I J → D I1 J1
def LK (X : CX) (D : MI → MI → Prop) (c : Nat) (I J : MI) : Prop := c ≤ X.2.2.1 ∧ cA X c I ∧ cR X c J ∧ D I J
def ER (X : CX) (I J : MI) : Prop := I 93 1 = J 207 32 ∧ I 93 2 = J 207 33 ∧ FI X.2.2.2.1 I ∧ FJ X.2.2.2.2 J
theorem kd_end {X : CX} (hX : Cxt X) : KD X X.2.2.1 = 0 := by
  unfold KD tkK
  rw [hX.2.2.2.2.1, if_neg (Nat.lt_irrefl _)]
theorem kd_lt {X : CX} {D : MI → MI → Prop} {c : Nat} {I J : MI} (hX : Cxt X) (h : LK X D c I J) (hk : ¬ KD X c = 0) : c < X.2.2.1 := by
  rcases Nat.lt_or_ge c X.2.2.1 with q | q
  · exact q
  · have e : c = X.2.2.1 := by have := h.1; omega
    rw [e, kd_end hX] at hk
    exact absurd rfl hk
theorem kd_v {X : CX} {c : Nat} : KD X c = 0 ∨ KD X c = 1 ∨ KD X c = 2 ∨ KD X c = 3 ∨ KD X c = 4 := by
  unfold KD tkK
  split
  · split
    · split <;> simp
    · split
      · split <;> simp
      · simp
  · simp
theorem vl_num {X : CX} (hX : Cxt X) {c : Nat} (h : KD X c = 3) : ∃ v, v < 10000 ∧ VL X c = nn v := by
  unfold KD tkK at h
  unfold VL tkV
  by_cases h1 : stc X.1 X.2.1 c < X.2.1
  · rw [if_pos h1] at h ⊢
    by_cases h2 : letC (X.1 (stc X.1 X.2.1 c)) = true
    · rw [if_pos h2] at h
      split at h <;> exact absurd h (by decide)
    · rw [if_neg h2] at h ⊢
      by_cases h3 : digC (X.1 (stc X.1 X.2.1 c)) = true
      · rw [if_pos h3] at h ⊢
        have eE : tkEd X.1 X.2.1 (stc X.1 X.2.1 c) = spn digC X.1 (X.2.1 - (stc X.1 X.2.1 c + 1)) (stc X.1 X.2.1 c + 1) := by unfold tkEd; rw [if_neg h2, if_pos h3]
        obtain ⟨v, q1, q2⟩ := numV_bd (T := X.1) (b := stc X.1 X.2.1 c) (min (tkEd X.1 X.2.1 (stc X.1 X.2.1 c) - stc X.1 X.2.1 c) 4) (by omega) (fun j hj => by
          by_cases hj0 : j = 0
          · rw [hj0, Nat.add_zero]; exact h3
          · exact spn_all (X.2.1 - (stc X.1 X.2.1 c + 1)) (stc X.1 X.2.1 c + 1) _ (by omega) (by rw [← eE]; omega))
        exact ⟨v, Nat.lt_of_lt_of_le q1 (Nat.le_trans (Nat.pow_le_pow_right (by decide) (show min (tkEd X.1 X.2.1 (stc X.1 X.2.1 c) - stc X.1 X.2.1 c) 4 ≤ 4 by omega)) (by decide)), q2⟩
      · rw [if_neg h3] at h
        exact absurd h (by decide)
  · rw [if_neg h1] at h
    exact absurd h (by decide)
theorem kR_2 {k v : Int32} : kR k v = 2 ↔ k = 2 := by
  unfold kR
  by_cases h : k = 4 ∧ ¬ mkC v = true
  · rw [if_pos h, h.1]; decide
  · rw [if_neg h]
theorem kR_3 {k v : Int32} : kR k v = 3 ↔ k = 3 := by
  unfold kR
  by_cases h : k = 4 ∧ ¬ mkC v = true
  · rw [if_pos h, h.1]; decide
  · rw [if_neg h]
theorem kR_0 {k v : Int32} : kR k v = 0 ↔ k = 0 := by
  unfold kR
  by_cases h : k = 4 ∧ ¬ mkC v = true
  · rw [if_pos h, h.1]; decide
  · rw [if_neg h]
theorem kR_4 {k v : Int32} : kR k v = 4 ↔ k = 4 ∧ mkC v = true := by
  unfold kR
  by_cases h : k = 4 ∧ ¬ mkC v = true
  · rw [if_pos h]; exact ⟨fun q => absurd q (by decide), fun q => absurd q.2 h.2⟩
  · rw [if_neg h]
    exact ⟨fun q => ⟨q, Classical.not_not.mp fun z => h ⟨q, z⟩⟩, fun q => q.1⟩
section
variable {X : CX} {D : MI → MI → Prop} {c : Nat} {I J : MI}
theorem lk_c (hX : Cxt X) (h : LK X D c I J) : c ≤ 400 := by have := h.1; have := hX.1; have := hX.2.1; omega
theorem rowA (hX : Cxt X) (h : LK X D c I J) : I 93 10 = nn c ∧ I 107 c = KD X c ∧ I 108 c = VL X c ∧ I 109 c = nn (stc X.1 X.2.1 c) ∧ I 93 9 = nn (X.2.2.1 + 1) := by
  have z := hX.2.2.1
  have y := z.2 c (by have := h.1; omega)
  obtain ⟨a1, a2, a3, a4⟩ := h.2.1
  exact ⟨a1, by rw [a4 107 c rfl]; exact y.1, by rw [a4 108 c rfl]; exact y.2.1, by rw [a4 109 c rfl]; exact y.2.2, by rw [a4 93 9 rfl]; exact z.1⟩
theorem kind_A (hX : Cxt X) (h : LK X D c I J) : ld 401 107 (I 93 10) I = some (KD X c, I) := by
  have r := rowA hX h
  have hc := lk_c hX h
  rw [r.1, e_ld (inR_nn (by omega) (by omega)), nn_nat (by omega), r.2.1]
theorem val_A (hX : Cxt X) (h : LK X D c I J) : ld 401 108 (I 93 10) I = some (VL X c, I) := by
  have r := rowA hX h
  have hc := lk_c hX h
  rw [r.1, e_ld (inR_nn (by omega) (by omega)), nn_nat (by omega), r.2.2.1]
theorem wrd_A (hX : Cxt X) (h : LK X D c I J) (x : Int32) : F_Reader_isKeyword x I = some (if KD X c = 2 ∧ VL X c = x then 1 else 0, I) := by
  unfold F_Reader_isKeyword
  rw [bn_rd, bn_of (kind_A hX h)]
  by_cases h2 : KD X c = 2
  · rw [if_pos h2, bn_rd, bn_of (val_A hX h)]
    by_cases h3 : VL X c = x
    · rw [if_pos h3, if_pos ⟨h2, h3⟩]; rfl
    · rw [if_neg h3, if_neg fun z => h3 z.2]; rfl
  · rw [if_neg h2, if_neg fun z => h2 z.1]; rfl
theorem sign_A (hX : Cxt X) (h : LK X D c I J) (x : Int32) : F_Reader_isSign x I = some (if KD X c = 4 ∧ VL X c = x then 1 else 0, I) := by
  unfold F_Reader_isSign
  rw [bn_rd, bn_of (kind_A hX h)]
  by_cases h2 : KD X c = 4
  · rw [if_pos h2, bn_rd, bn_of (val_A hX h)]
    by_cases h3 : VL X c = x
    · rw [if_pos h3, if_pos ⟨h2, h3⟩]; rfl
    · rw [if_neg h3, if_neg fun z => h3 z.2]; rfl
  · rw [if_neg h2, if_neg fun z => h2 z.1]; rfl
theorem word_R (h : LK X D c I J) (x : Int32) : F_R_isWord x J = some (if KD X c = 2 ∧ VL X c = x then 1 else 0, J) := by
  obtain ⟨_, _, r3, r4, _⟩ := h.2.2.1
  unfold F_R_isWord
  rw [bn_rd, r3]
  by_cases h2 : KD X c = 2
  · rw [if_pos (kR_2.mpr h2), bn_rd, r4 (Or.inl h2)]
    by_cases h3 : VL X c = x
    · rw [if_pos h3, if_pos ⟨h2, h3⟩]; rfl
    · rw [if_neg h3, if_neg fun z => h3 z.2]; rfl
  · rw [if_neg fun z => h2 (kR_2.mp z), if_neg fun z => h2 z.1]; rfl
theorem sign_R (h : LK X D c I J) (x : Int32) (hx : mkC x = true) : F_R_isSign x J = some (if KD X c = 4 ∧ VL X c = x then 1 else 0, J) := by
  obtain ⟨_, _, r3, r4, _⟩ := h.2.2.1
  unfold F_R_isSign
  rw [bn_rd, r3]
  by_cases h2 : KD X c = 4 ∧ mkC (VL X c) = true
  · rw [if_pos (kR_4.mpr h2), bn_rd, r4 (Or.inr (Or.inr h2.1))]
    by_cases h3 : VL X c = x
    · rw [if_pos h3, if_pos ⟨h2.1, h3⟩]; rfl
    · rw [if_neg h3, if_neg fun z => h3 z.2]; rfl
  · rw [if_neg fun z => h2 (kR_4.mp z), if_neg fun z => h2 ⟨z.1, by rw [z.2]; exact hx⟩]; rfl
def sI (I : MI) (c : Nat) : MI := bup I 93 (upd (I 93) 10 (nn (c + 1)))
theorem step_A (hX : Cxt X) (h : LK X D c I J) (hk : ¬ KD X c = 0) : F_Reader_step I = some ((), sI I c) := by
  have r := rowA hX h
  have hc := kd_lt hX h hk
  have := hX.1
  have := hX.2.1
  unfold F_Reader_step
  rw [bn_rd, bn_rd, r.1, r.2.2.2.2, show (1 : Int32) = nn 1 from rfl, nn_sub (by omega), Nat.add_sub_cancel, if_pos ((nn_lt (by omega) (by omega)).mpr hc), bn_rd, bn_wr, r.1, nn_add]
  rfl
theorem p_step (hX : Cxt X) (hD : stab D) (h : LK X D c I J) (hk : ¬ KD X c = 0) : ∃ J1, F_R_reads J = some ((), J1) ∧ LK X D (c + 1) (sI I c) J1 := by
  obtain ⟨h1, ⟨a1, a2, a3, a4⟩, ⟨r1, r2, r3, r4, r5⟩, h4⟩ := h
  have hc : c < X.2.2.1 := kd_lt hX ⟨h1, ⟨a1, a2, a3, a4⟩, ⟨r1, r2, r3, r4, r5⟩, h4⟩ hk
  obtain ⟨x1, x2, x3, x4, x5, x6, x7, x8, x9⟩ := hX
  have h14 : J 207 14 = nn X.2.1 := by rw [r5 207 14 rfl]; exact x6
  have hT : ∀ k, k < X.2.1 → J 216 k = X.1 k := fun k hk => by rw [r5 216 k rfl]; exact x7 k hk
  obtain ⟨u, J1, q1, q2⟩ := reads_R (J := J) (n := X.2.1) (y := tkN X.1 X.2.1 (stc X.1 X.2.1 c)) x1 tkN_le h14 r1 (fun k hk => by rw [hT k hk]; exact x8 k hk) (fun k hk => by rw [r5 217 k rfl]; exact x9 k hk)
  have eS : tkB (J 216) X.2.1 (tkN X.1 X.2.1 (stc X.1 X.2.1 c)) = stc X.1 X.2.1 (c + 1) := by
    rw [tkB_co hT tkN_le]; rfl
  rw [eS] at q2
  obtain ⟨⟨w1, w2⟩, w3, w4, w5, w6⟩ := q2
  rw [tkN_co hT] at w3
  rw [tkK_co hT, tkV_co hT] at w5
  rw [tkK_co hT, tkV_co hT] at w6
  refine ⟨J1, q1, by omega, ⟨?_, ?_, ?_, ?_⟩, ⟨w3, w4, w5, w6, ?_⟩, ?_⟩
  · unfold sI; rw [bup_eq, upd_eq]
  · unfold sI; rw [bup_eq, upd_ne _ _ (by decide)]; exact a2
  · unfold sI; rw [bup_eq, upd_ne _ _ (by decide)]; exact a3
  · exact fi_set a4 rfl
  · intro a k hk
    by_cases ea : a = 207
    · subst ea
      rw [w2 k (fun e => by rw [e] at hk; cases hk) (fun e => by rw [e] at hk; cases hk) (fun e => by rw [e] at hk; cases hk) (fun e => by rw [e] at hk; cases hk)]
      exact r5 207 k hk
    · rw [w1 a ea]; exact r5 a k hk
  · refine hD I J _ _ (fun a g1 g2 => ?_) (fun a g1 g2 => w1 a (by omega)) (fun k hk => ?_) h4
    · unfold sI; rw [bup_ne _ _ (by omega)]
    · rcases hk with e | e | e <;> (rw [e]; exact w2 _ (by decide) (by decide) (by decide) (by decide))
theorem p_fail (hX : Cxt X) (h : LK X D c I J) (x : Int32) : ∃ I1 J1, F_Reader_fail x I = some (0, I1) ∧ F_R_errs x J = some (-1, J1) ∧ ER X I1 J1 := by
  have r := rowA hX h
  have hc := lk_c hX h
  obtain ⟨h1, ⟨a1, a2, a3, a4⟩, ⟨r1, r2, r3, r4, r5⟩, h4⟩ := h
  refine ⟨bup (bup I 93 (upd (I 93) 1 x)) 93 (upd (bup I 93 (upd (I 93) 1 x) 93) 2 (nn (stc X.1 X.2.1 c))), bup (bup J 207 (upd (J 207) 32 x)) 207 (upd (bup J 207 (upd (J 207) 32 x) 207) 33 (nn (stc X.1 X.2.1 c))), ?_, ?_, ?_, ?_, ?_, ?_⟩
  · unfold F_Reader_fail
    rw [bn_wr, bn_rd]
    have e10 : bup I 93 (upd (I 93) 1 x) 93 10 = nn c := by rw [bup_eq, upd_ne _ _ (by decide), a1]
    rw [e10, bn_ld _ _ (inR_nn (by omega) (by omega)), nn_nat (by omega), bup_ne _ _ (by decide), r.2.2.2.1, bn_wr]
    rfl
  · unfold F_R_errs
    rw [bn_wr, bn_rd]
    have e16 : bup J 207 (upd (J 207) 32 x) 207 16 = nn (stc X.1 X.2.1 c) := by rw [bup_eq, upd_ne _ _ (by decide), r2]
    rw [e16, bn_wr]
    rfl
  · rw [bup_eq, upd_ne _ _ (by decide), bup_eq, upd_eq, bup_eq, upd_ne _ _ (by decide), bup_eq, upd_eq]
  · rw [bup_eq, upd_eq, bup_eq, upd_eq]
  · exact fi_set (fi_set a4 rfl) rfl
  · exact fj_set (fj_set r5 rfl) rfl
end
end TJ99
