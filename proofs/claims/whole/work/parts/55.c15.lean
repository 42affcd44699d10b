/-! game -/
section SC15
def lsN (x : Nat) : Nat := lostL.getD x 0
/-- what to take of the first, where so many are taken in all -/
def mvN (a b k : Nat) : Option Nat :=
  if k ≤ b ∧ lsN a = b - k then some 0
  else if k % 2 = 0 ∧ k / 2 ≤ a ∧ k / 2 ≤ b ∧ lsN (a - k / 2) = b - k / 2 then some (k / 2)
  else if k ≤ a ∧ lsN (a - k) = b then some k
  else none
/-- the first that is there, from k on -/
def fndF {β : Type} (g : Nat → Option β) : Nat → Nat → Option β
  | 0, _ => none
  | m + 1, k => match g k with
    | some v => some v
    | none => fndF g m (k + 1)
def stG {β : Type} (o : Option β) (k : Nat) : Int32 ⊕ β := match o with
  | some v => .inr v
  | none => .inl (nn (k + 1))
theorem fnd_lp {β : Type} {body : Int32 → M (Int32 ⊕ β)} {I : MI} (G : Nat → Option β) (e : β) : ∀ (m k N : Nat), m < N → (∀ j, k ≤ j → j < k + m → body (nn j) I = some (stG (G j) j, I)) → body (nn (k + m)) I = some (.inr e, I) → lp body N (nn k) I = some ((fndF G m k).getD e, I) := by
  intro m
  induction m with
  | zero =>
    intro k N hN hs he
    obtain ⟨N, rfl⟩ : ∃ N', N = N' + 1 := ⟨N - 1, by omega⟩
    have he : body (nn k) I = some (.inr e, I) := he
    rw [lp_s, bn_of he]
    rfl
  | succ m ih =>
    intro k N hN hs he
    obtain ⟨N, rfl⟩ : ∃ N', N = N' + 1 := ⟨N - 1, by omega⟩
    rw [lp_s, bn_of (hs k (Nat.le_refl _) (by omega))]
    unfold fndF
    cases hk : G k with
    | some v => rfl
    | none =>
      show lp body N (nn (k + 1)) I = _
      refine ih (k + 1) N (by omega) (fun j h1 h2 => hs j (by omega) (by omega)) ?_
      rw [show k + 1 + m = k + (m + 1) by omega]
      exact he
theorem sub_neg {j k : Nat} (hk : k < 2 ^ 30) (h : j < k) : nn j - nn k < 0 := by
  rw [Int32.lt_iff_toInt_lt, Int32.toInt_sub, nn_toInt (by omega), nn_toInt (by omega)]
  have : ((j : Int) - k).bmod (2 ^ 32) = (j : Int) - k := by
    apply Int.bmod_eq_of_le <;> omega
  rw [this]
  have e0 : (0 : Int32).toInt = 0 := rfl
  omega
theorem half_nn {k : Nat} (hk : k < 2 ^ 30) : nn k / 2 = nn (k / 2) := by
  rw [show (2 : Int32) = nn 2 from rfl]
  exact (Int32.ofNat_div (by omega) (by decide)).symm
theorem even_nn {k : Nat} (hk : k < 2 ^ 30) : nn k - nn k / 2 * 2 = nn (k % 2) := by
  rw [half_nn hk, show (2 : Int32) = nn 2 from rfl, nn_mul, nn_sub (by omega)]
  congr 1
  omega
theorem ll_in {I : MI} {a b : Nat} (hl : ∀ k, k < 41 → I 206 k = nn (lsN k)) (ha : a ≤ 40) (hb : b < 1000) : F_Riddles_leavesLost (nn a) (nn b) I = some (if lsN a = b then 1 else 0, I) := by
  have q := rng_in (a := 0) (b := 40) (by decide) (Nat.zero_le a) ha
  have w : F_A_within (nn a) 0 40 = rt 1 := wi_in q.1 q.2
  have ll : lsN a < 1000 := by
    have : (List.range 41).all (fun k => decide (lsN k < 1000)) = true := by decide +kernel
    exact of_decide_eq_true (List.all_eq_true.mp this a (List.mem_range.mpr (by omega)))
  unfold F_Riddles_leavesLost
  rw [w, bn_rt, if_neg one_ne, if_neg (nn_neg (by omega)), bn_ld _ _ (inR_nn (by omega) (by omega)), nn_nat (by omega), hl a (by omega), ite_ap]
  by_cases e : lsN a = b
  · rw [if_pos e, if_pos (by rw [e])]; rfl
  · rw [if_neg e, if_neg (nn_ne (by omega) (by omega) e)]; rfl
theorem ll_x {I : MI} {x y : Int32} (h : x < 0) : F_Riddles_leavesLost x y I = some (0, I) := by
  unfold F_Riddles_leavesLost
  rw [wi_out (Or.inl h), bn_rt, if_pos rfl]
  rfl
theorem ll_y {I : MI} {a : Nat} {y : Int32} (ha : a ≤ 40) (h : y < 0) : F_Riddles_leavesLost (nn a) y I = some (0, I) := by
  have q := rng_in (a := 0) (b := 40) (by decide) (Nat.zero_le a) ha
  have w : F_A_within (nn a) 0 40 = rt 1 := wi_in q.1 q.2
  unfold F_Riddles_leavesLost
  rw [w, bn_rt, if_neg one_ne, if_pos h]
  rfl
/-- leaving a - p and b - q -/
theorem ll_sub {I : MI} {a b p q : Nat} (hl : ∀ k, k < 41 → I 206 k = nn (lsN k)) (ha : a ≤ 40) (hb : b ≤ 40) (hp : p < 1000) (hq : q < 1000) : F_Riddles_leavesLost (nn a - nn p) (nn b - nn q) I = some (if p ≤ a ∧ q ≤ b ∧ lsN (a - p) = b - q then 1 else 0, I) := by
  by_cases h1 : p ≤ a
  · rw [nn_sub h1]
    by_cases h2 : q ≤ b
    · rw [nn_sub h2, ll_in hl (by omega) (by omega)]
      simp [h1, h2]
    · rw [ll_y (by omega) (sub_neg (by omega) (by omega)), if_neg (fun h => h2 h.2.1)]
  · rw [ll_x (sub_neg (by omega) (by omega)), if_neg (fun h => h1 h.1)]
theorem nn_m1 {k : Nat} (hk : k < 2 ^ 31) : ¬ nn k = -1 := by
  intro h
  have := congrArg Int32.toInt h
  rw [nn_toInt hk] at this
  have e : (-1 : Int32).toInt = -1 := rfl
  omega
theorem ifz {c : Prop} [Decidable c] : ((if c then (1 : Int32) else 0) = 0) ↔ ¬ c := by
  by_cases h : c
  · rw [if_pos h]; constructor
    · intro e; exact absurd e (by decide)
    · intro e; exact absurd h e
  · rw [if_neg h]; exact ⟨fun _ => h, fun _ => rfl⟩
def gaA (a b k : Nat) : Option ((Int32 × Int32) ⊕ Int32) := (mvN a b k).map fun f => .inl (nn k, nn f)
theorem take_A {I : MI} {a b : Nat} {w : Int32} (hl : ∀ k, k < 41 → I 206 k = nn (lsN k)) (ha : a ≤ 40) (hb : b ≤ 40) : lp (B_Riddles_goodTake_3 (nn a) (nn b) w) FU 1 I = some ((fndF (gaA a b) (a + b) 1).getD (.inr (-1)), I) := by
  have key := fnd_lp (body := B_Riddles_goodTake_3 (nn a) (nn b) w) (I := I) (gaA a b) (.inr (-1)) (a + b) 1 FU (by rw [FU_eq]; omega)
  refine key (fun k h1 h2 => ?_) ?_
  · unfold B_Riddles_goodTake_3 K_Riddles_goodTake_83
    have e0 : (nn a : Int32) = nn a - nn 0 := by rw [nn_sub (Nat.zero_le a)]; rfl
    have f0 : (nn b : Int32) = nn b - nn 0 := by rw [nn_sub (Nat.zero_le b)]; rfl
    have l1 := ll_sub (I := I) (p := 0) (q := k) hl ha hb (by omega) (by omega)
    rw [← e0] at l1
    have l2 := ll_sub (I := I) (p := k / 2) (q := k / 2) hl ha hb (by omega) (by omega)
    have l3 := ll_sub (I := I) (p := k) (q := 0) hl ha hb (by omega) (by omega)
    rw [← f0] at l3
    have d2 : ∀ {β : Type} (m : M β), dvI 2 m = m := fun m => dvI_ne m (by decide)
    have z0 : ¬ (0 : Int32) = -1 := by decide
    rw [nn_add, ite_ap, if_neg (by rw [nn_lt (by omega) (by omega)]; omega), bn_of l1, ite_ap]
    unfold gaA
    by_cases c1 : 0 ≤ a ∧ k ≤ b ∧ lsN (a - 0) = b - k
    · have hm : mvN a b k = some 0 := by unfold mvN; rw [if_pos (show k ≤ b ∧ lsN a = b - k from c1.2)]
      rw [hm, if_pos c1, if_neg one_ne, if_neg z0]
      rfl
    · have n1 : ¬ (k ≤ b ∧ lsN a = b - k) := fun h => c1 ⟨Nat.zero_le _, h⟩
      rw [if_neg c1, if_pos rfl, d2, even_nn (by omega), half_nn (by omega), ite_ap]
      by_cases ev : k % 2 = 0
      · rw [ev, if_pos (show nn 0 = 0 from rfl), d2, d2, bn_of l2, ite_ap]
        by_cases c2 : k / 2 ≤ a ∧ k / 2 ≤ b ∧ lsN (a - k / 2) = b - k / 2
        · have hm : mvN a b k = some (k / 2) := by unfold mvN; rw [if_neg n1, if_pos ⟨ev, c2⟩]
          rw [hm, if_pos c2, if_neg one_ne, d2, if_neg (nn_m1 (by omega))]
          rfl
        · rw [if_neg c2, if_pos rfl, bn_of l3, ite_ap]
          by_cases c3 : k ≤ a ∧ 0 ≤ b ∧ lsN (a - k) = b - 0
          · have hm : mvN a b k = some k := by unfold mvN; rw [if_neg n1, if_neg (fun h => c2 h.2), if_pos ⟨c3.1, c3.2.2⟩]
            rw [hm, if_pos c3, if_neg one_ne, if_neg (nn_m1 (by omega))]
            rfl
          · have hm : mvN a b k = none := by unfold mvN; rw [if_neg n1, if_neg (fun h => c2 h.2), if_neg (fun h => c3 ⟨h.1, Nat.zero_le _, h.2⟩)]
            rw [hm, if_neg c3, if_pos rfl, if_pos rfl, nn_s]
            rfl
      · have od : k % 2 = 1 := by omega
        rw [od, if_neg (show ¬ nn 1 = 0 by decide), bn_of l3, ite_ap]
        by_cases c3 : k ≤ a ∧ 0 ≤ b ∧ lsN (a - k) = b - 0
        · have hm : mvN a b k = some k := by unfold mvN; rw [if_neg n1, if_neg (fun h => ev h.1), if_pos ⟨c3.1, c3.2.2⟩]
          rw [hm, if_pos c3, if_neg one_ne, if_neg (nn_m1 (by omega))]
          rfl
        · have hm : mvN a b k = none := by unfold mvN; rw [if_neg n1, if_neg (fun h => ev h.1), if_neg (fun h => c3 ⟨h.1, Nat.zero_le _, h.2⟩)]
          rw [hm, if_neg c3, if_pos rfl, if_pos rfl, nn_s]
          rfl
  · unfold B_Riddles_goodTake_3
    rw [nn_add, ite_ap, if_pos ((nn_lt (by omega) (by omega)).mpr (by omega))]
    rfl
/-! the reference's table -/
def wnN (x y : Nat) : Int32 := if lsN x = y then 0 else 1
theorem le_in {J : MI} {a b p q : Nat} (ha : a ≤ 40) (hb : b ≤ 40) (hp : p < 1000) (hq : q < 1000) (h : p ≤ a → q ≤ b → J 252 (41 * (a - p) + (b - q)) = wnN (a - p) (b - q)) : F_R_leaves (nn a) (nn b) (nn p) (nn q) J = some (if p ≤ a ∧ q ≤ b ∧ lsN (a - p) = b - q then 0 else 1, J) := by
  unfold F_R_leaves
  rw [ite_ap]
  by_cases h1 : p ≤ a
  · rw [if_neg (by rw [nn_lt (by omega) (by omega)]; omega), ite_ap]
    by_cases h2 : q ≤ b
    · rw [if_neg (by rw [nn_lt (by omega) (by omega)]; omega), nn_sub h1, show (41 : Int32) = nn 41 from rfl, nn_mul, nn_add, nn_sub (by omega), show 41 * (a - p) + b - q = 41 * (a - p) + (b - q) by omega, bn_ld _ _ (inR_nn (by omega) (by omega)), nn_nat (by omega), h h1 h2]
      unfold wnN
      by_cases e : lsN (a - p) = b - q
      · rw [if_pos e, if_pos ⟨h1, h2, e⟩]; rfl
      · rw [if_neg e, if_neg (fun z => e z.2.2)]; rfl
    · rw [if_pos ((nn_lt (by omega) (by omega)).mpr (by omega)), if_neg (fun z => h2 z.2.1)]; rfl
  · rw [if_pos ((nn_lt (by omega) (by omega)).mpr (by omega)), if_neg (fun z => h1 z.1)]; rfl
theorem ifo {c : Prop} [Decidable c] : ((if c then (0 : Int32) else 1) = 0) ↔ c := by
  by_cases h : c
  · rw [if_pos h]; exact ⟨fun _ => h, fun _ => rfl⟩
  · rw [if_neg h]; constructor
    · intro e; exact absurd e (by decide)
    · intro e; exact absurd e h
def gaR (a b k : Nat) : Option Int32 := (mvN a b k).map fun f => nn (100 * f + (k - f))
/-- the table is right below and left of here -/
def tabOK (J : MI) (a b : Nat) : Prop := ∀ x y, x ≤ a → y ≤ b → (x < a ∨ y < b) → J 252 (41 * x + y) = wnN x y
theorem take_R {J : MI} {a b : Nat} (ht : tabOK J a b) (ha : a ≤ 40) (hb : b ≤ 40) : F_R_goodTaking (nn a) (nn b) J = some ((fndF (gaR a b) (a + b) 1).getD (-1), J) := by
  unfold F_R_goodTaking K_R_goodTaking_2
  have key := fnd_lp (body := B_R_goodTaking_2 (nn a) (nn b)) (I := J) (gaR a b) (-1) (a + b) 1 FU (by rw [FU_eq]; omega)
  refine key (fun k h1 h2 => ?_) ?_
  · unfold B_R_goodTaking_2
    have l1 := le_in (J := J) (p := 0) (q := k) ha hb (by omega) (by omega) (fun p q => ht _ _ (by omega) (by omega) (by omega))
    have l2 := le_in (J := J) (p := k / 2) (q := k / 2) ha hb (by omega) (by omega)
    have l3 := le_in (J := J) (p := k) (q := 0) ha hb (by omega) (by omega) (fun p q => ht _ _ (by omega) (by omega) (by omega))
    have d2 : ∀ {β : Type} (m : M β), dvI 2 m = m := fun m => dvI_ne m (by decide)
    have e0 : nn 0 = (0 : Int32) := rfl
    rw [e0] at l1 l3
    rw [nn_add, ite_ap, if_neg (by rw [nn_lt (by omega) (by omega)]; omega), bn_of l1, ite_ap]
    unfold gaR
    by_cases c1 : 0 ≤ a ∧ k ≤ b ∧ lsN (a - 0) = b - k
    · have hm : mvN a b k = some 0 := by unfold mvN; rw [if_pos (show k ≤ b ∧ lsN a = b - k from c1.2)]
      rw [hm, if_pos (ifo.mpr c1)]
      show _ = some (Sum.inr (nn (100 * 0 + (k - 0))), J)
      rw [show 100 * 0 + (k - 0) = k by omega]
      rfl
    · have n1 : ¬ (k ≤ b ∧ lsN a = b - k) := fun h => c1 ⟨Nat.zero_le _, h⟩
      rw [if_neg (fun z => c1 (ifo.mp z)), d2, even_nn (by omega), half_nn (by omega), ite_ap]
      by_cases ev : k % 2 = 0
      · have l2 := l2 (fun p q => ht _ _ (by omega) (by omega) (by omega))
        rw [ev, if_pos (show nn 0 = 0 from rfl), d2, d2, bn_of l2, ite_ap]
        by_cases c2 : k / 2 ≤ a ∧ k / 2 ≤ b ∧ lsN (a - k / 2) = b - k / 2
        · have hm : mvN a b k = some (k / 2) := by unfold mvN; rw [if_neg n1, if_pos ⟨ev, c2⟩]
          rw [hm, if_pos (ifo.mpr c2), d2]
          show _ = some (Sum.inr (nn (100 * (k / 2) + (k - k / 2))), J)
          rw [show 100 * (k / 2) + (k - k / 2) = 101 * (k / 2) by omega, ← nn_mul]
          rfl
        · rw [if_neg (fun z => c2 (ifo.mp z)), bn_of l3, ite_ap]
          by_cases c3 : k ≤ a ∧ 0 ≤ b ∧ lsN (a - k) = b - 0
          · have hm : mvN a b k = some k := by unfold mvN; rw [if_neg n1, if_neg (fun h => c2 h.2), if_pos ⟨c3.1, c3.2.2⟩]
            rw [hm, if_pos (ifo.mpr c3)]
            show _ = some (Sum.inr (nn (100 * k + (k - k))), J)
            rw [show 100 * k + (k - k) = 100 * k by omega, ← nn_mul]
            rfl
          · have hm : mvN a b k = none := by unfold mvN; rw [if_neg n1, if_neg (fun h => c2 h.2), if_neg (fun h => c3 ⟨h.1, Nat.zero_le _, h.2⟩)]
            rw [hm, if_neg (fun z => c3 (ifo.mp z)), nn_s]
            rfl
      · have od : k % 2 = 1 := by omega
        rw [od, if_neg (show ¬ nn 1 = 0 by decide), bn_of l3, ite_ap]
        by_cases c3 : k ≤ a ∧ 0 ≤ b ∧ lsN (a - k) = b - 0
        · have hm : mvN a b k = some k := by unfold mvN; rw [if_neg n1, if_neg (fun h => ev h.1), if_pos ⟨c3.1, c3.2.2⟩]
          rw [hm, if_pos (ifo.mpr c3)]
          show _ = some (Sum.inr (nn (100 * k + (k - k))), J)
          rw [show 100 * k + (k - k) = 100 * k by omega, ← nn_mul]
          rfl
        · have hm : mvN a b k = none := by unfold mvN; rw [if_neg n1, if_neg (fun h => ev h.1), if_neg (fun h => c3 ⟨h.1, Nat.zero_le _, h.2⟩)]
          rw [hm, if_neg (fun z => c3 (ifo.mp z)), nn_s]
          rfl
  · unfold B_R_goodTaking_2
    rw [nn_add, ite_ap, if_pos ((nn_lt (by omega) (by omega)).mpr (by omega))]
    rfl
/-- who begins loses just where the list says so -/
theorem game_all : (List.range 41).all (fun a => (List.range 41).all fun b => (fndF (mvN a b) (a + b) 1).isNone == decide (lsN a = b)) = true := by decide +kernel
end SC15
