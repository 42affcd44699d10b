/-! what is left alone (printed by wip/tools/gen_fr.py) -/
section FRM0
def Fr {α : Type} (P : Nat → Prop) (m : M α) : Prop := ∀ I x I1, m I = some (x, I1) → ∀ a, P a → I1 a = I a
abbrev frA {α : Type} (m : M α) : Prop := Fr (fun a => 207 ≤ a) m
abbrev frR {α : Type} (m : M α) : Prop := Fr (fun a => a < 207) m
theorem fr_rt {α : Type} {P : Nat → Prop} {x : α} : Fr P (rt x) := by
  intro I y I1 h a _; cases h; rfl
theorem fr_fl {α : Type} {P : Nat → Prop} : Fr P (fl : M α) := by
  intro I y I1 h; cases h
theorem fr_bn {α β : Type} {P : Nat → Prop} {m : M α} {f : α → M β} (h1 : Fr P m) (h2 : ∀ x, Fr P (f x)) : Fr P (bn m f) := by
  intro I y I1 h a ha
  obtain ⟨x, I2, q1, q2⟩ := bn_some h
  exact (h2 x I2 y I1 q2 a ha).trans (h1 I x I2 q1 a ha)
theorem fr_ite {α : Type} {P : Nat → Prop} {c : Prop} [Decidable c] {m n : M α} (h1 : Fr P m) (h2 : Fr P n) : Fr P (if c then m else n) := by
  by_cases h : c
  · rw [if_pos h]; exact h1
  · rw [if_neg h]; exact h2
theorem fr_bup {α : Type} {P : Nat → Prop} {b : Nat} (hb : ¬ P b) {m : M α} (hm : ∀ I x I1, m I = some (x, I1) → I1 = I ∨ ∃ g, I1 = bup I b g) : Fr P m := by
  intro I x I1 h a ha
  rcases hm I x I1 h with q | ⟨g, q⟩
  · rw [q]
  · rw [q, bup_ne _ _ (fun e => hb (by rw [← e]; exact ha))]
theorem fr_id {α : Type} {P : Nat → Prop} {m : M α} (hm : ∀ I x I1, m I = some (x, I1) → I1 = I) : Fr P m := by
  intro I x I1 h a _; rw [hm I x I1 h]
theorem fr_rd {P : Nat → Prop} {a k : Nat} : Fr P (rd a k) := fr_id fun I x I1 h => by cases h; rfl
theorem fr_ld {P : Nat → Prop} {n a : Nat} {i : Int32} : Fr P (ld n a i) := fr_id fun I x I1 h => by
  have q : Ok (ld n a i) I fun _ K => K = I1 := ⟨x, I1, h, rfl⟩
  rw [ok_ld] at q; exact q.2.symm
theorem fr_gd {P : Nat → Prop} {b : Bool} : Fr P (gd b) := fr_id fun I x I1 h => by
  have q : Ok (gd b) I fun _ K => K = I1 := ⟨x, I1, h, rfl⟩
  rw [ok_gd] at q; exact q.2.symm
theorem fr_gdZ {P : Nat → Prop} {x : Int32} : Fr P (gdZ x) := fr_id fun I y I1 h => by
  have q : Ok (gdZ x) I fun _ K => K = I1 := ⟨y, I1, h, rfl⟩
  rw [ok_gdZ] at q; exact q.2.symm
theorem fr_wr {P : Nat → Prop} {a k : Nat} {x : Int32} (h : ¬ P a) : Fr P (wr a k x) := fr_bup h fun I y I1 h => by
  cases h; exact Or.inr ⟨_, rfl⟩
theorem fr_wrZ {P : Nat → Prop} {a k : Nat} {x : Int32} (h : ¬ P a) : Fr P (wrZ a k x) := fr_bup h fun I y I1 h => by
  have q : Ok (wrZ a k x) I fun _ K => K = I1 := ⟨y, I1, h, rfl⟩
  rw [ok_wrZ] at q; exact Or.inr ⟨_, q.2.symm⟩
theorem fr_sr {P : Nat → Prop} {n a : Nat} {i x : Int32} (h : ¬ P a) : Fr P (sr n a i x) := fr_bup h fun I y I1 h => by
  have q : Ok (sr n a i x) I fun _ K => K = I1 := ⟨y, I1, h, rfl⟩
  rw [ok_sr] at q; exact Or.inr ⟨_, q.2.symm⟩
theorem fr_cp {P : Nat → Prop} {na nb a b : Nat} {sp dp n : Int32} (h : ¬ P b) : Fr P (cpM na nb a sp b dp n) := fr_bup h fun I y I1 h => by
  unfold cpM at h
  split at h
  · cases h; exact Or.inr ⟨_, rfl⟩
  · cases h
theorem fr_dvI {α : Type} {P : Nat → Prop} {y : Int32} {m : M α} (h : Fr P m) : Fr P (dvI y m) := by
  unfold dvI; exact fr_ite fr_fl h
theorem fr_dvJ {α : Type} {P : Nat → Prop} {y : Int64} {m : M α} (h : Fr P m) : Fr P (dvJ y m) := by
  unfold dvJ; exact fr_ite fr_fl h
theorem fr_lp {σ β : Type} {P : Nat → Prop} {body : σ → M (σ ⊕ β)} (hb : ∀ y, Fr P (body y)) : ∀ {N : Nat} {x : σ}, Fr P (lp body N x) := by
  intro N
  induction N with
  | zero => intro x; exact fr_fl
  | succ N ih =>
    intro x
    rw [lp_s]
    refine fr_bn (hb x) fun r => ?_
    cases r with
    | inl y => exact ih
    | inr y => exact fr_rt
theorem hw_le (r : Nat) : hw r ≤ 111 := by
  unfold hw; split <;> omega
theorem inR_lt2 {v : Int32} {n : Nat} (h : inR v n = true) : v.toNatClampNeg < n := by
  unfold inR at h
  simp only [Bool.and_eq_true, decide_eq_true_eq] at h
  exact h.2
theorem frA_rt {α : Type} {x : α} : frA (rt x) := fr_rt
theorem frA_fl {α : Type} : frA (fl : M α) := fr_fl
theorem frA_bn {α β : Type} {m : M α} {f : α → M β} (h1 : frA m) (h2 : ∀ x, frA (f x)) : frA (bn m f) := fr_bn h1 h2
theorem frA_ite {α : Type} {c : Prop} [Decidable c] {m n : M α} (h1 : frA m) (h2 : frA n) : frA (if c then m else n) := fr_ite h1 h2
theorem frA_rd {a k : Nat} : frA (rd a k) := fr_rd
theorem frA_ld {n a : Nat} {i : Int32} : frA (ld n a i) := fr_ld
theorem frA_gd {b : Bool} : frA (gd b) := fr_gd
theorem frA_gdZ {x : Int32} : frA (gdZ x) := fr_gdZ
theorem frA_wr {a k : Nat} {x : Int32} (h : a < 207) : frA (wr a k x) := fr_wr (by show ¬ 207 ≤ a; omega)
theorem frA_wrZ {a k : Nat} {x : Int32} (h : a < 207) : frA (wrZ a k x) := fr_wrZ (by show ¬ 207 ≤ a; omega)
theorem frA_sr {n a : Nat} {i x : Int32} (h : a < 207) : frA (sr n a i x) := fr_sr (by show ¬ 207 ≤ a; omega)
theorem frA_cp {na nb a b : Nat} {sp dp n : Int32} (h : b < 207) : frA (cpM na nb a sp b dp n) := fr_cp (by show ¬ 207 ≤ b; omega)
theorem frA_dvI {α : Type} {y : Int32} {m : M α} (h : frA m) : frA (dvI y m) := fr_dvI h
theorem frA_dvJ {α : Type} {y : Int64} {m : M α} (h : frA m) : frA (dvJ y m) := fr_dvJ h
theorem frA_lp {σ β : Type} {body : σ → M (σ ⊕ β)} (hb : ∀ y, frA (body y)) {N : Nat} {x : σ} : frA (lp body N x) := fr_lp hb
theorem frR_rt {α : Type} {x : α} : frR (rt x) := fr_rt
theorem frR_fl {α : Type} : frR (fl : M α) := fr_fl
theorem frR_bn {α β : Type} {m : M α} {f : α → M β} (h1 : frR m) (h2 : ∀ x, frR (f x)) : frR (bn m f) := fr_bn h1 h2
theorem frR_ite {α : Type} {c : Prop} [Decidable c] {m n : M α} (h1 : frR m) (h2 : frR n) : frR (if c then m else n) := fr_ite h1 h2
theorem frR_rd {a k : Nat} : frR (rd a k) := fr_rd
theorem frR_ld {n a : Nat} {i : Int32} : frR (ld n a i) := fr_ld
theorem frR_gd {b : Bool} : frR (gd b) := fr_gd
theorem frR_gdZ {x : Int32} : frR (gdZ x) := fr_gdZ
theorem frR_wr {a k : Nat} {x : Int32} (h : 207 ≤ a) : frR (wr a k x) := fr_wr (by show ¬ a < 207; omega)
theorem frR_wrZ {a k : Nat} {x : Int32} (h : 207 ≤ a) : frR (wrZ a k x) := fr_wrZ (by show ¬ a < 207; omega)
theorem frR_sr {n a : Nat} {i x : Int32} (h : 207 ≤ a) : frR (sr n a i x) := fr_sr (by show ¬ a < 207; omega)
theorem frR_cp {na nb a b : Nat} {sp dp n : Int32} (h : 207 ≤ b) : frR (cpM na nb a sp b dp n) := fr_cp (by show ¬ b < 207; omega)
theorem frR_dvI {α : Type} {y : Int32} {m : M α} (h : frR m) : frR (dvI y m) := fr_dvI h
theorem frR_dvJ {α : Type} {y : Int64} {m : M α} (h : frR m) : frR (dvJ y m) := fr_dvJ h
theorem frR_lp {σ β : Type} {body : σ → M (σ ⊕ β)} (hb : ∀ y, frR (body y)) {N : Nat} {x : σ} : frR (lp body N x) := fr_lp hb
theorem frA_bnG {α : Type} {b : Bool} {f : Unit → M α} (h : b = true → frA (f ())) : frA (bn (gd b) f) := by
  intro I y I1 q a ha
  obtain ⟨x, I2, q1, q2⟩ := bn_some q
  have q3 : Ok (gd b) I fun _ K => K = I2 := ⟨x, I2, q1, rfl⟩
  rw [ok_gd] at q3
  rw [← q3.2] at q2
  exact h q3.1 I y I1 q2 a ha
end FRM0
