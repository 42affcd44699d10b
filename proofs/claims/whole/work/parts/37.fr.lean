/-! what does not change, and the calculus by simp -/
section FRM
theorem ok_rd {a k : Nat} {I : MI} {Q : Int32 → MI → Prop} : Ok (rd a k) I Q ↔ Q (I a k) I := ok_eq rfl
theorem ok_wr {a k : Nat} {x : Int32} {I : MI} {Q : Unit → MI → Prop} : Ok (wr a k x) I Q ↔ Q () (bup I a (upd (I a) k x)) := ok_eq rfl
theorem ok_gdZ {x : Int32} {I : MI} {Q : Unit → MI → Prop} : Ok (gdZ x) I Q ↔ (x = 0 ∨ x = 1) ∧ Q () I := by
  constructor
  · rintro ⟨y, I1, h, q⟩
    unfold gdZ at h
    split at h
    · rename_i hx; cases h; exact ⟨hx, q⟩
    · cases h
  · rintro ⟨hx, q⟩; exact ⟨(), I, if_pos hx, q⟩
theorem ok_wrZ {a k : Nat} {x : Int32} {I : MI} {Q : Unit → MI → Prop} : Ok (wrZ a k x) I Q ↔ (x = 0 ∨ x = 1) ∧ Q () (bup I a (upd (I a) k x)) := by
  constructor
  · rintro ⟨y, I1, h, q⟩
    unfold wrZ at h
    split at h
    · rename_i hx; cases h; exact ⟨hx, q⟩
    · cases h
  · rintro ⟨hx, q⟩; exact ⟨(), _, if_pos hx, q⟩
theorem ok_gd {b : Bool} {I : MI} {Q : Unit → MI → Prop} : Ok (gd b) I Q ↔ b = true ∧ Q () I := by
  constructor
  · rintro ⟨y, I1, h, q⟩
    obtain ⟨hb, e⟩ := gd_ok h
    cases e
    exact ⟨hb, q⟩
  · rintro ⟨hb, q⟩; subst hb; exact ⟨(), I, rfl, q⟩
theorem ok_ld {n a : Nat} {i : Int32} {I : MI} {Q : Int32 → MI → Prop} : Ok (ld n a i) I Q ↔ inR i n = true ∧ Q (I a i.toNatClampNeg) I := by
  constructor
  · rintro ⟨y, I1, h, q⟩
    unfold ld at h
    cases hi : inR i n with
    | false => rw [hi] at h; cases h
    | true => rw [hi] at h; cases h; exact ⟨rfl, q⟩
  · rintro ⟨hi, q⟩; exact ⟨_, I, by unfold ld; rw [hi], q⟩
theorem ok_sr {n a : Nat} {i x : Int32} {I : MI} {Q : Unit → MI → Prop} : Ok (sr n a i x) I Q ↔ inR i n = true ∧ Q () (bup I a (upd (I a) i.toNatClampNeg x)) := by
  constructor
  · rintro ⟨y, I1, h, q⟩
    unfold sr at h
    cases hi : inR i n with
    | false => rw [hi] at h; cases h
    | true => rw [hi] at h; cases h; exact ⟨rfl, q⟩
  · rintro ⟨hi, q⟩; exact ⟨(), _, by unfold sr; rw [hi], q⟩
theorem ok_ite {α : Type} {c : Prop} [Decidable c] {a b : M α} {I : MI} {Q : α → MI → Prop} : Ok (if c then a else b) I Q ↔ if c then Ok a I Q else Ok b I Q := by
  by_cases h : c
  · rw [if_pos h, if_pos h]
  · rw [if_neg h, if_neg h]
theorem call_of {F G : M Int32} (h : ∀ I J, Rl I J → Ok F I fun v I1 => Ok G J fun u J1 => u = v ∧ Rl I1 J1) : Call F G := by
  intro I J hr
  obtain ⟨v, I1, h1, u, J1, h2, e, q⟩ := h I J hr
  subst e
  exact ⟨u, I1, J1, h1, h2, q⟩
theorem wi_in {v a b : Int32} (h1 : ¬ v < a) (h2 : ¬ b < v) : F_A_within v a b = rt 1 := by
  unfold F_A_within; rw [if_neg h1, if_neg h2, gdZ1, bn_rt]
theorem wi_out {v a b : Int32} (h : v < a ∨ b < v) : F_A_within v a b = rt 0 := by
  unfold F_A_within
  by_cases h1 : v < a
  · rw [if_pos h1, gdZ0, bn_rt]
  · rw [if_neg h1, if_pos (h.resolve_left h1), gdZ0, bn_rt]
theorem ri_in {v a b : Int32} (h1 : ¬ v < a) (h2 : ¬ b < v) : F_R_isIn v a b = rt 1 := by
  unfold F_R_isIn; rw [if_neg h1, if_neg h2, gdZ1, bn_rt]
theorem ri_out {v a b : Int32} (h : v < a ∨ b < v) : F_R_isIn v a b = rt 0 := by
  unfold F_R_isIn
  by_cases h1 : v < a
  · rw [if_pos h1, gdZ0, bn_rt]
  · rw [if_neg h1, if_pos (h.resolve_left h1), gdZ0, bn_rt]
theorem one_ne : ¬ ((1 : Int32) = 0) := by decide
/-- a number within bounds, or not -/
theorem rng {v : Int32} (a b : Nat) (hb : b < 2 ^ 31) (hab : a ≤ b) : (∃ k, a ≤ k ∧ k ≤ b ∧ v = nn k) ∨ (v < nn a ∨ nn b < v) := by
  by_cases h1 : v < nn a
  · exact Or.inr (Or.inl h1)
  · by_cases h2 : nn b < v
    · exact Or.inr (Or.inr h2)
    · have h0 : ¬ v < 0 := by
        intro h
        apply h1
        rw [Int32.lt_iff_toInt_lt] at h ⊢
        rw [nn_toInt (by omega)]
        have e0 : (0 : Int32).toInt = 0 := rfl
        omega
      obtain ⟨k, q1, q2⟩ := of_le hb h0 h2
      refine Or.inl ⟨k, ?_, q1, q2⟩
      rw [q2, nn_lt (by omega) (by omega)] at h1
      omega
theorem rng_in {k a b : Nat} (hb : b < 2 ^ 31) (h1 : a ≤ k) (h2 : k ≤ b) : ¬ nn k < nn a ∧ ¬ nn b < nn k := by
  rw [nn_lt (by omega) (by omega), nn_lt (by omega) (by omega)]
  omega
/-- all but some addresses stay -/
def UI (l : List Nat) (I I1 : MI) : Prop := ∀ c, memN c l = false → I1 c = I c
theorem ui_bup {l : List Nat} {I I1 : MI} {a : Nat} {g : Nat → Int32} (h : UI l I I1) (ha : memN a l = true) : UI l I (bup I1 a g) := by
  intro c hc
  rw [bup_ne _ _ (by intro e; rw [e, ha] at hc; cases hc)]
  exact h c hc
theorem ui_refl (l : List Nat) (I : MI) : UI l I I := fun _ _ => rfl
theorem ui_trans {l : List Nat} {I I1 I2 : MI} (h : UI l I I1) (h2 : UI l I1 I2) : UI l I I2 := fun c hc => (h2 c hc).trans (h c hc)
theorem ui_mono {l m : List Nat} {I I1 : MI} (h : UI l I I1) (hm : ∀ c, memN c m = false → memN c l = false) : UI m I I1 := fun c hc => h c (hm c hc)
/-- the same of the reference's: its own ints field by field -/
def UJ (l f : List Nat) (J J1 : MI) : Prop := UI (207 :: l) J J1 ∧ ∀ k, memN k f = false → J1 207 k = J 207 k
theorem uj_bup {l f : List Nat} {J J1 : MI} {a : Nat} {g : Nat → Int32} (h : UJ l f J J1) (ha : memN a l = true) (h207 : a ≠ 207) : UJ l f J (bup J1 a g) := by
  refine ⟨ui_bup h.1 (by unfold memN; split <;> first | rfl | exact ha), fun k hk => ?_⟩
  rw [bup_ne _ _ (Ne.symm h207)]
  exact h.2 k hk
theorem uj_fld {l f : List Nat} {J J1 : MI} {k : Nat} {x : Int32} (h : UJ l f J J1) (hk : memN k f = true) : UJ l f J (bup J1 207 (upd (J1 207) k x)) := by
  refine ⟨ui_bup h.1 rfl, fun j hj => ?_⟩
  rw [bup_eq, upd_ne _ _ (by intro e; rw [e, hk] at hj; cases hj)]
  exact h.2 j hj
theorem uj_refl (l f : List Nat) (J : MI) : UJ l f J J := ⟨fun _ _ => rfl, fun _ _ => rfl⟩
theorem uj_ne {l f : List Nat} {J J1 : MI} (h : UJ l f J J1) {c : Nat} (hc : memN c (207 :: l) = false) : J1 c = J c := h.1 c hc
def noneIn (l : List Nat) : List Nat → Bool
  | [] => true
  | c :: r => !(memN c l) && noneIn l r
theorem noneIn_at {l : List Nat} : ∀ {r : List Nat}, noneIn l r = true → ∀ c, c ∈ r → memN c l = false := by
  intro r
  induction r with
  | nil => intro _ c hc; cases hc
  | cons a r ih =>
    intro h c hc
    have h2 : (!(memN a l) && noneIn l r) = true := h
    simp only [Bool.and_eq_true, Bool.not_eq_true'] at h2
    rcases List.mem_cons.mp hc with e | e
    · rw [e]; exact h2.1
    · exact ih h2.2 c e
theorem noneIn_ran {l : List Nat} {a n : Nat} (h : noneIn l (List.range' a n) = true) : ∀ c, a ≤ c → c < a + n → memN c l = false := by
  intro c h1 h2
  exact noneIn_at h c (List.mem_range'_1.mpr ⟨h1, h2⟩)
/-! block by block -/
theorem k_rW {I I1 : MI} {w : Nat} {R : Nat → Int32} (h : ∀ c, w ≤ c → c < w + 11 → I1 c = I c) (k : rW I w R) : rW I1 w R := by
  unfold rW at k ⊢
  rw [h w (by omega) (by omega), h (w + 1) (by omega) (by omega), h (w + 3) (by omega) (by omega), h (w + 7) (by omega) (by omega), h (w + 8) (by omega) (by omega), h (w + 9) (by omega) (by omega), h (w + 10) (by omega) (by omega)]
  exact k
theorem k_rS {I I1 : MI} {w : Nat} {np na : Int32} {wi pe ra ho : Nat → Int32} (h : ∀ c, w ≤ c → c < w + 11 → I1 c = I c) (k : rS I w np na wi pe ra ho) : rS I1 w np na wi pe ra ho := by
  unfold rS at k ⊢
  rw [h w (by omega) (by omega), h (w + 2) (by omega) (by omega), h (w + 4) (by omega) (by omega), h (w + 5) (by omega) (by omega), h (w + 6) (by omega) (by omega)]
  exact k
theorem k_bW {I I1 : MI} {w np na : Nat} (h : ∀ c, w ≤ c → c < w + 11 → I1 c = I c) (k : bW I w np na) : bW I1 w np na := by
  unfold bW at k ⊢
  rw [h w (by omega) (by omega), h (w + 3) (by omega) (by omega), h (w + 4) (by omega) (by omega), h (w + 6) (by omega) (by omega), h (w + 7) (by omega) (by omega), h (w + 8) (by omega) (by omega), h (w + 10) (by omega) (by omega)]
  exact k
theorem k_Wor {I I1 J J1 : MI} {w : Nat} (h : ∀ c, w ≤ c → c < w + 11 → I1 c = I c) (h6 : J1 207 6 = J 207 6) (h7 : J1 207 7 = J 207 7) (h8 : J1 208 = J 208) (h211 : J1 211 = J 211) (h212 : J1 212 = J 212) (h213 : J1 213 = J 213) (h214 : J1 214 = J 214) (k : bWor I w J) : bWor I1 w J1 := by
  unfold bWor at k ⊢
  rw [h6, h7, h8, h211, h212, h213, h214]
  obtain ⟨a, b, np, na, c⟩ := k
  exact ⟨k_rW h a, k_rS h b, np, na, k_bW h c⟩
theorem k_Law {I I1 J J1 : MI} {l : Nat} (h : ∀ c, l ≤ c → c < l + 4 → I1 c = I c) (h8 : J1 218 = J 218) (h9 : J1 219 = J 219) (h20 : J1 220 = J 220) (h21 : J1 221 = J 221) (h22 : J1 222 = J 222) (h23 : J1 223 = J 223) (h24 : J1 224 = J 224) (k : bLaw I l J) : bLaw I1 l J1 := by
  unfold bLaw at k ⊢
  rw [h8, h9, h20, h21, h22, h23, h24, h l (by omega) (by omega), h (l + 1) (by omega) (by omega), h (l + 2) (by omega) (by omega), h (l + 3) (by omega) (by omega)]
  exact k
theorem k_Sha {I I1 J J1 : MI} {t : Nat} (h : ∀ c, t ≤ c → c < t + 2 → I1 c = I c) (hf : J1 207 36 = J 207 36) (h1 : J1 226 = J 226) (k : bSha I t J) : bSha I1 t J1 := by
  unfold bSha at k ⊢
  rw [hf, h1, h t (by omega) (by omega), h (t + 1) (by omega) (by omega)]
  exact k
theorem k_Dia {I I1 J J1 : MI} {t w : Nat} (h : ∀ c, t ≤ c → c < t + 2 → I1 c = I c) (hw7 : I1 w 7 = I w 7) (hw8 : I1 w 8 = I w 8) (hf : J1 207 38 = J 207 38) (h1 : J1 227 = J 227) (k : bDia I t w J) : bDia I1 t w J1 := by
  unfold bDia at k ⊢
  rw [hf, h1, hw7, hw8, h t (by omega) (by omega), h (t + 1) (by omega) (by omega)]
  exact k
theorem k_Way {I I1 J J1 : MI} {t : Nat} (h : ∀ c, t ≤ c → c < t + 2 → I1 c = I c) (hf : J1 207 40 = J 207 40) (h1 : J1 228 = J 228) (k : bWay I t J) : bWay I1 t J1 := by
  unfold bWay at k ⊢
  rw [hf, h1, h t (by omega) (by omega), h (t + 1) (by omega) (by omega)]
  exact k
theorem k_Sig {I I1 J J1 : MI} {t : Nat} (h : ∀ c, t ≤ c → c < t + 2 → I1 c = I c) (hf : J1 207 44 = J 207 44) (h1 : J1 231 = J 231) (h2 : J1 232 = J 232) (k : bSig I t J) : bSig I1 t J1 := by
  unfold bSig at k ⊢
  rw [hf, h1, h2, h t (by omega) (by omega), h (t + 1) (by omega) (by omega)]
  exact k
theorem k_Pai {I I1 J J1 : MI} {t : Nat} (h : ∀ c, t ≤ c → c < t + 2 → I1 c = I c) (hf : J1 207 49 = J 207 49) (h1 : J1 235 = J 235) (h2 : J1 236 = J 236) (k : bPai I t J) : bPai I1 t J1 := by
  unfold bPai at k ⊢
  rw [hf, h1, h2, h t (by omega) (by omega), h (t + 1) (by omega) (by omega)]
  exact k
theorem k_Wrd {I I1 J J1 : MI} {t : Nat} (h : ∀ c, t ≤ c → c < t + 2 → I1 c = I c) (hf : J1 207 53 = J 207 53) (h1 : J1 238 = J 238) (h2 : J1 239 = J 239) (h3 : J1 240 = J 240) (k : bWrd I t J) : bWrd I1 t J1 := by
  unfold bWrd at k ⊢
  rw [hf, h1, h2, h3, h t (by omega) (by omega), h (t + 1) (by omega) (by omega)]
  exact k
theorem k_Vot {I I1 J J1 : MI} {t : Nat} (h : ∀ c, t ≤ c → c < t + 2 → I1 c = I c) (hf : J1 207 57 = J 207 57) (h1 : J1 241 = J 241) (k : bVot I t J) : bVot I1 t J1 := by
  unfold bVot at k ⊢
  rw [hf, h1, h t (by omega) (by omega), h (t + 1) (by omega) (by omega)]
  exact k
theorem k_Not {I I1 J J1 : MI} {t j : Nat} (h : ∀ c, t ≤ c → c < t + 2 → I1 c = I c) (h1 : J1 242 = J 242) (h2 : J1 243 = J 243) (k : bNot I t j J) : bNot I1 t j J1 := by
  unfold bNot at k ⊢
  rw [h1, h2, h t (by omega) (by omega), h (t + 1) (by omega) (by omega)]
  exact k
theorem k_Boo {I I1 J J1 : MI} {t : Nat} (h : ∀ c, t ≤ c → c < t + 2 → I1 c = I c) (hf : J1 207 61 = J 207 61) (h1 : J1 244 = J 244) (k : bBoo I t J) : bBoo I1 t J1 := by
  unfold bBoo at k ⊢
  rw [hf, h1, h t (by omega) (by omega), h (t + 1) (by omega) (by omega)]
  exact k
theorem k_Bed {I I1 J J1 : MI} {t : Nat} (h : ∀ c, t ≤ c → c < t + 2 → I1 c = I c) (hf : J1 207 63 = J 207 63) (h1 : J1 245 = J 245) (h2 : J1 246 = J 246) (k : bBed I t J) : bBed I1 t J1 := by
  unfold bBed at k ⊢
  rw [hf, h1, h2, h t (by omega) (by omega), h (t + 1) (by omega) (by omega)]
  exact k
theorem k_Box {I I1 J J1 : MI} {t : Nat} (h : ∀ c, t ≤ c → c < t + 2 → I1 c = I c) (hf : J1 207 67 = J 207 67) (h1 : J1 248 = J 248) (k : bBox I t J) : bBox I1 t J1 := by
  unfold bBox at k ⊢
  rw [hf, h1, h t (by omega) (by omega), h (t + 1) (by omega) (by omega)]
  exact k
theorem k_Loa {I I1 J J1 : MI} {t : Nat} (h : ∀ c, t ≤ c → c < t + 2 → I1 c = I c) (hf : J1 207 70 = J 207 70) (h1 : J1 250 = J 250) (k : bLoa I t J) : bLoa I1 t J1 := by
  unfold bLoa at k ⊢
  rw [hf, h1, h t (by omega) (by omega), h (t + 1) (by omega) (by omega)]
  exact k
end FRM
