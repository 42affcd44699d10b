/-! the calculus of the functions -/
section BAS
theorem bn_rt {α β : Type} (x : α) (f : α → M β) : bn (rt x) f = f x := rfl
theorem bn_fl {α β : Type} (f : α → M β) : bn (fl : M α) f = fl := rfl
theorem bn_bn {α β γ : Type} (m : M α) (f : α → M β) (g : β → M γ) : bn (bn m f) g = bn m fun x => bn (f x) g := by
  funext I
  unfold bn
  cases m I <;> rfl
theorem bn_ite {α β : Type} (c : Prop) [Decidable c] (a b : M α) (f : α → M β) : bn (if c then a else b) f = if c then bn a f else bn b f := by
  by_cases h : c
  · rw [if_pos h, if_pos h]
  · rw [if_neg h, if_neg h]
theorem ite_ap {α : Type} (c : Prop) [Decidable c] (a b : M α) (I : MI) : (if c then a else b) I = if c then a I else b I := by
  by_cases h : c
  · rw [if_pos h, if_pos h]
  · rw [if_neg h, if_neg h]
theorem bn_of {α β : Type} {m : M α} {f : α → M β} {I I1 : MI} {x : α} (h : m I = some (x, I1)) : bn m f I = f x I1 := by
  unfold bn
  rw [h]
theorem rt_ap {α : Type} (x : α) (I : MI) : rt x I = some (x, I) := rfl
theorem bn_rd {β : Type} (a k : Nat) (f : Int32 → M β) (I : MI) : bn (rd a k) f I = f (I a k) I := rfl
theorem bn_wr {β : Type} (a k : Nat) (x : Int32) (f : Unit → M β) (I : MI) : bn (wr a k x) f I = f () (bup I a (upd (I a) k x)) := rfl
theorem bn_gdZ0 {β : Type} (f : Unit → M β) (I : MI) : bn (gdZ 0) f I = f () I := rfl
theorem bn_gdZ1 {β : Type} (f : Unit → M β) (I : MI) : bn (gdZ 1) f I = f () I := rfl
theorem gdZ0 : gdZ 0 = rt () := rfl
theorem gdZ1 : gdZ 1 = rt () := rfl
theorem bn_wrZ0 {β : Type} (a k : Nat) (f : Unit → M β) (I : MI) : bn (wrZ a k 0) f I = f () (bup I a (upd (I a) k 0)) := rfl
theorem bn_wrZ1 {β : Type} (a k : Nat) (f : Unit → M β) (I : MI) : bn (wrZ a k 1) f I = f () (bup I a (upd (I a) k 1)) := rfl
theorem bn_gd {β : Type} {b : Bool} (f : Unit → M β) (I : MI) (h : b = true) : bn (gd b) f I = f () I := by
  subst h; rfl
theorem bn_ld {β : Type} {n a : Nat} {i : Int32} (f : Int32 → M β) (I : MI) (h : inR i n = true) : bn (ld n a i) f I = f (I a i.toNatClampNeg) I := by
  unfold bn ld; rw [h]
theorem bn_sr {β : Type} {n a : Nat} {i x : Int32} (f : Unit → M β) (I : MI) (h : inR i n = true) : bn (sr n a i x) f I = f () (bup I a (upd (I a) i.toNatClampNeg x)) := by
  unfold bn sr; rw [h]
theorem dvI_ne {β : Type} {y : Int32} (k : M β) (h : ¬ y = 0) : dvI y k = k := if_neg h
theorem dvJ_ne {β : Type} {y : Int64} (k : M β) (h : ¬ y = 0) : dvJ y k = k := if_neg h
theorem bup_eq {α : Type} (I : Nat → α) (a : Nat) (g : α) : bup I a g a = g := if_pos rfl
theorem bup_ne {α : Type} (I : Nat → α) {a b : Nat} (g : α) (h : b ≠ a) : bup I a g b = I b := if_neg h
theorem upd_eq (f : Nat → Int32) (k : Nat) (x : Int32) : upd f k x k = x := if_pos rfl
theorem upd_ne (f : Nat → Int32) {k j : Nat} (x : Int32) (h : j ≠ k) : upd f k x j = f j := if_neg h
/-! small numbers -/
abbrev nn (k : Nat) : Int32 := Int32.ofNat k
theorem nn_toInt {k : Nat} (h : k < 2 ^ 31) : (nn k).toInt = k := by
  unfold nn
  exact Int32.toInt_ofNat_of_lt h
theorem nn_nat {k : Nat} (h : k < 2 ^ 31) : (nn k).toNatClampNeg = k := by
  have e : (nn k).toNatClampNeg = (nn k).toInt.toNat := rfl
  rw [e, nn_toInt h]
  rfl
theorem nn_lt {j k : Nat} (hj : j < 2 ^ 31) (hk : k < 2 ^ 31) : nn j < nn k ↔ j < k := by
  rw [Int32.lt_iff_toInt_lt, nn_toInt hj, nn_toInt hk]
  omega
theorem nn_neg {k : Nat} (h : k < 2 ^ 31) : ¬ nn k < 0 := by
  rw [Int32.lt_iff_toInt_lt, nn_toInt h]
  have : (0 : Int32).toInt = 0 := rfl
  omega
theorem nn_inj {j k : Nat} (hj : j < 2 ^ 31) (hk : k < 2 ^ 31) : nn j = nn k ↔ j = k := by
  constructor
  · intro h
    have e := congrArg Int32.toInt h
    rw [nn_toInt hj, nn_toInt hk] at e
    omega
  · intro h; rw [h]
theorem nn_add (j k : Nat) : nn j + nn k = nn (j + k) := (Int32.ofNat_add j k).symm
theorem nn_mul (j k : Nat) : nn j * nn k = nn (j * k) := (Int32.ofNat_mul j k).symm
theorem inR_nn {k n : Nat} (h : k < n) (hn : k < 2 ^ 31) : inR (nn k) n = true := by
  unfold inR
  rw [nn_nat hn, decide_eq_false (nn_neg hn), decide_eq_true h]
  rfl
theorem nn_sub {j k : Nat} (h : k ≤ j) : nn j - nn k = nn (j - k) := by
  have e : nn j = nn (j - k) + nn k := by rw [nn_add]; congr 1; omega
  rw [e]
  exact Int32.add_sub_cancel _ _
theorem of_range {x : Int32} {n : Nat} (h0 : ¬ x < 0) (h1 : x.toInt < n) : ∃ k, k < n ∧ x = nn k := by
  rw [Int32.lt_iff_toInt_lt] at h0
  have e0 : (0 : Int32).toInt = 0 := rfl
  rw [e0] at h0
  refine ⟨x.toInt.toNat, by omega, ?_⟩
  have hle := x.toInt_le
  apply Int32.toInt_inj.mp
  rw [nn_toInt (by have : (2:Int) ^ 31 = 2147483648 := rfl; have : (2:Nat) ^ 31 = 2147483648 := rfl; have h5 : Int32.maxValue.toInt = 2147483647 := rfl; omega)]
  omega
theorem of_lt {x : Int32} {n : Nat} (hn : n < 2 ^ 31) (h0 : ¬ x < 0) (h1 : x < nn n) : ∃ k, k < n ∧ x = nn k := by
  rw [Int32.lt_iff_toInt_lt, nn_toInt hn] at h1
  exact of_range h0 h1
theorem of_le {x : Int32} {n : Nat} (hn : n < 2 ^ 31) (h0 : ¬ x < 0) (h1 : ¬ nn n < x) : ∃ k, k ≤ n ∧ x = nn k := by
  rw [Int32.lt_iff_toInt_lt, nn_toInt hn] at h1
  obtain ⟨k, a, b⟩ := of_range (n := n + 1) h0 (by omega)
  exact ⟨k, by omega, b⟩
/-! runs that come well -/
def Ok {α : Type} (m : M α) (I : MI) (Q : α → MI → Prop) : Prop := ∃ x I1, m I = some (x, I1) ∧ Q x I1
theorem ok_rt {α : Type} {x : α} {I : MI} {Q : α → MI → Prop} : Ok (rt x) I Q ↔ Q x I := by
  constructor
  · rintro ⟨y, I1, h, q⟩; cases h; exact q
  · intro q; exact ⟨x, I, rfl, q⟩
theorem ok_bn {α β : Type} {m : M α} {f : α → M β} {I : MI} {Q : β → MI → Prop} : Ok (bn m f) I Q ↔ Ok m I fun x I1 => Ok (f x) I1 Q := by
  constructor
  · rintro ⟨y, I1, h, q⟩
    obtain ⟨x, I2, h1, h2⟩ := bn_some h
    exact ⟨x, I2, h1, y, I1, h2, q⟩
  · rintro ⟨x, I2, h1, y, I1, h2, q⟩
    exact ⟨y, I1, by rw [bn_of h1]; exact h2, q⟩
theorem ok_eq {α : Type} {m : M α} {I I1 : MI} {x : α} {Q : α → MI → Prop} (h : m I = some (x, I1)) : Ok m I Q ↔ Q x I1 := by
  constructor
  · rintro ⟨y, I2, h2, q⟩; rw [h] at h2; cases h2; exact q
  · intro q; exact ⟨x, I1, h, q⟩
theorem ok_mono {α : Type} {m : M α} {I : MI} {Q Q2 : α → MI → Prop} (h : Ok m I Q) (hq : ∀ x I1, Q x I1 → Q2 x I1) : Ok m I Q2 := by
  obtain ⟨x, I1, a, b⟩ := h
  exact ⟨x, I1, a, hq _ _ b⟩
theorem FU_eq : FU = 5000 := rfl
theorem lp_s {σ β : Type} (body : σ → M (σ ⊕ β)) (n : Nat) (x : σ) : lp body (n + 1) x = bn (body x) fun r => match r with
    | .inl y => lp body n y
    | .inr y => rt y := rfl
/-- a loop by its count -/
theorem ok_lp {σ β : Type} {body : σ → M (σ ⊕ β)} {Q : β → MI → Prop} (Inv : Nat → σ → MI → Prop) (n : Nat)
    (hs : ∀ k x I, k < n → Inv k x I → Ok (body x) I fun r I1 => match r with
      | .inl y => Inv (k + 1) y I1
      | .inr e => Q e I1)
    (he : ∀ x I, Inv n x I → Ok (body x) I fun r I1 => match r with
      | .inl _ => False
      | .inr e => Q e I1) : ∀ (N : Nat) (x : σ) (I : MI), n < N → Inv 0 x I → Ok (lp body N x) I Q := by
  have key : ∀ (m k N : Nat) (x : σ) (I : MI), m + k = n → m < N → Inv k x I → Ok (lp body N x) I Q := by
    intro m
    induction m with
    | zero =>
      intro k N x I hk hN hi
      obtain ⟨N, rfl⟩ : ∃ N', N = N' + 1 := ⟨N - 1, by omega⟩
      rw [lp_s, ok_bn]
      have e : k = n := by omega
      subst e
      refine ok_mono (he x I hi) ?_
      intro r I1 h
      cases r with
      | inl y => exact h.elim
      | inr y => exact ok_rt.mpr h
    | succ m ih =>
      intro k N x I hk hN hi
      obtain ⟨N, rfl⟩ : ∃ N', N = N' + 1 := ⟨N - 1, by omega⟩
      rw [lp_s, ok_bn]
      refine ok_mono (hs k x I (by omega) hi) ?_
      intro r I1 h
      cases r with
      | inl y => exact ih (k + 1) N y I1 (by omega) (by omega) h
      | inr y => exact ok_rt.mpr h
  intro N x I hN hi
  exact key n 0 N x I (by omega) hN hi
/-- a loop that leaves the ints alone: its value by a function of the count -/
theorem lp_val {σ β : Type} {body : σ → M (σ ⊕ β)} {I : MI} {e : β} (f : Nat → σ) (n : Nat) (hs : ∀ k, k < n → body (f k) I = some (.inl (f (k + 1)), I)) (he : body (f n) I = some (.inr e, I)) : ∀ N, n < N → lp body N (f 0) I = some (e, I) := by
  have key : ∀ (m k N : Nat), m + k = n → m < N → lp body N (f k) I = some (e, I) := by
    intro m
    induction m with
    | zero =>
      intro k N hk hN
      obtain ⟨N, rfl⟩ : ∃ N', N = N' + 1 := ⟨N - 1, by omega⟩
      have e2 : k = n := by omega
      subst e2
      rw [lp_s, bn_of he]
      rfl
    | succ m ih =>
      intro k N hk hN
      obtain ⟨N, rfl⟩ : ∃ N', N = N' + 1 := ⟨N - 1, by omega⟩
      rw [lp_s, bn_of (hs k (by omega))]
      exact ih (k + 1) N (by omega) (by omega)
  intro N hN
  exact key n 0 N (by omega) hN
end BAS
