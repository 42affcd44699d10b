/-! hours: class and reference go along -/
section SC30
theorem bb {α β γ δ : Type} {F : M α} {f : α → M γ} {G : M β} {g : β → M δ} {I J : MI} {P : α → MI → β → MI → Prop} {Q : γ → MI → δ → MI → Prop} (h : Ok F I fun v I1 => Ok G J fun u J1 => P v I1 u J1) (k : ∀ v I1 u J1, P v I1 u J1 → Ok (f v) I1 fun a I2 => Ok (g u) J1 fun b J2 => Q a I2 b J2) : Ok (bn F f) I fun a I2 => Ok (bn G g) J fun b J2 => Q a I2 b J2 := by
  obtain ⟨v, I1, h1, u, J1, h2, p⟩ := h
  rw [ok_bn, ok_eq h1]
  refine ok_mono (k v I1 u J1 p) fun a I2 h3 => ?_
  rw [ok_bn, ok_eq h2]
  exact h3
theorem lpN {σ τ α β : Type} {b1 : σ → M (σ ⊕ α)} {b2 : τ → M (τ ⊕ β)} {Q : α → MI → β → MI → Prop} (n : Nat) (P : Nat → σ → MI → τ → MI → Prop)
    (hs : ∀ i x I y J, i < n → P i x I y J → Ok (b1 x) I fun r I1 => Ok (b2 y) J fun s J1 => sdQ (P (i + 1)) Q r I1 s J1)
    (he : ∀ x I y J, P n x I y J → Ok (b1 x) I fun r I1 => Ok (b2 y) J fun s J1 => sdQ (fun _ _ _ _ => False) Q r I1 s J1)
    (hn : n < 5000) {x : σ} {I : MI} {y : τ} {J : MI} (h : P 0 x I y J) : Ok (lp b1 FU x) I fun a I1 => Ok (lp b2 FU y) J fun b J1 => Q a I1 b J1 := by
  refine lpS (fun k x I y J => ∃ i, i + k = n ∧ P i x I y J) (fun k x I y J hk => ?_) FU n x I y J (by rw [FU_eq]; exact hn) ⟨0, by omega, h⟩
  obtain ⟨i, hi, hp⟩ := hk
  cases k with
  | zero =>
    have e : i = n := by omega
    subst e
    refine ok_mono (he x I y J hp) fun r I1 h1 => ok_mono h1 fun s J1 h2 => ?_
    cases r with
    | inl a => cases s with
      | inl b => exact h2.elim
      | inr b => exact h2.elim
    | inr a => cases s with
      | inl b => exact h2.elim
      | inr b => exact h2
  | succ k =>
    refine ok_mono (hs i x I y J (by omega) hp) fun r I1 h1 => ok_mono h1 fun s J1 h2 => ?_
    cases r with
    | inl a => cases s with
      | inl b => exact ⟨k, by omega, i + 1, by omega, h2⟩
      | inr b => exact h2.elim
    | inr a => cases s with
      | inl b => exact h2.elim
      | inr b => exact h2
def TT (w np na : Nat) (z e : Int32) (I0 J0 I J : MI) : Prop := (∀ a, a ≠ 14 → a ≠ 20 → (a < w ∨ w + 10 < a) → I a = I0 a) ∧ (∀ a, a ≠ 208 → a ≠ 215 → a ≠ 229 → a ≠ 230 → J a = J0 a) ∧ rW I w (J 208) ∧ rS I w (J 207 6) (J 207 7) (J 211) (J 212) (J 213) (J 214) ∧ bW I w np na ∧ (z = 0 ∧ bBk (I 14) (J 215) ∨ z = 1 ∧ I 14 = I0 14 ∧ J 215 = J0 215) ∧ I w 3 = e
theorem tt_w {w np na a : Nat} {z e : Int32} {I0 J0 I J : MI} {g R : Nat → Int32} (hw : w = 2 ∨ w = 111) (ha : w ≤ a ∧ a ≤ w + 10) (h : TT w np na z e I0 J0 I J) (c1 : rW (bup I a g) w R) (c2 : ∀ {x y : Int32} {wi pe ra ho : Nat → Int32}, rS I w x y wi pe ra ho → rS (bup I a g) w x y wi pe ra ho) (c3 : bW (bup I a g) w np na) (c4 : (bup I a g) w 3 = I w 3) : TT w np na z e I0 J0 (bup I a g) (bup J 208 R) := by
  obtain ⟨h1, h2, h3, h4, h5, h6, h7⟩ := h
  refine ⟨fun b n1 n2 n3 => ?_, fun b n1 n2 n3 n4 => ?_, ?_, ?_, c3, ?_, c4.trans h7⟩
  · rw [bup_ne _ _ (by omega)]; exact h1 b n1 n2 n3
  · rw [bup_ne _ _ n1]; exact h2 b n1 n2 n3 n4
  · rw [bup_eq]; exact c1
  · rw [bup_ne J (a := 208) (b := 207) _ (by decide), bup_ne J (a := 208) (b := 211) _ (by decide), bup_ne J (a := 208) (b := 212) _ (by decide), bup_ne J (a := 208) (b := 213) _ (by decide), bup_ne J (a := 208) (b := 214) _ (by decide)]
    exact c2 h4
  · rw [bup_ne I (a := a) (b := 14) _ (by omega), bup_ne J (a := 208) (b := 215) _ (by decide)]
    exact h6
theorem tt_8 {w np na k : Nat} {z e x : Int32} {I0 J0 I J : MI} (hw : w = 2 ∨ w = 111) (hk : k < 18) (hx : x = 0 ∨ x = 1) (h : TT w np na z e I0 J0 I J) : TT w np na z e I0 J0 (bup I (w + 8) (upd (I (w + 8)) k x)) (bup J 208 (upd (J 208) (41 + k) x)) := tt_w hw (by omega) h (rW_a8 hk h.2.2.1) (fun q => rS_a (j := 8) (by decide) q) (bW_a8 hx h.2.2.2.2.1) (by rw [bup_ne _ _ (by omega)])
theorem tt_7 {w np na k q : Nat} {z e : Int32} {I0 J0 I J : MI} (hw : w = 2 ∨ w = 111) (hk : k < 18) (hq : q < 10) (h : TT w np na z e I0 J0 I J) : TT w np na z e I0 J0 (bup I (w + 7) (upd (I (w + 7)) k (nn q))) (bup J 208 (upd (J 208) (23 + k) (nn q))) := tt_w hw (by omega) h (rW_a7 hk h.2.2.1) (fun q => rS_a (j := 7) (by decide) q) (bW_a7 hq h.2.2.2.2.1) (by rw [bup_ne _ _ (by omega)])
theorem tt_3 {w np na k q : Nat} {z e : Int32} {I0 J0 I J : MI} (hw : w = 2 ∨ w = 111) (hk : k < 6) (hq : q ≤ 9999) (h : TT w np na z e I0 J0 I J) : TT w np na z e I0 J0 (bup I (w + 3) (upd (I (w + 3)) k (nn q))) (bup J 208 (upd (J 208) (17 + k) (nn q))) := tt_w hw (by omega) h (rW_a3 hk h.2.2.1) (fun q => rS_a (j := 3) (by decide) q) (bW_a3 hq h.2.2.2.2.1) (by rw [bup_ne _ _ (by omega)])
theorem tt_9 {w np na k : Nat} {z e x : Int32} {I0 J0 I J : MI} (hw : w = 2 ∨ w = 111) (hk : k < 18) (h : TT w np na z e I0 J0 I J) : TT w np na z e I0 J0 (bup I (w + 9) (upd (I (w + 9)) k x)) (bup J 208 (upd (J 208) (59 + k) x)) := tt_w hw (by omega) h (rW_a9 hk h.2.2.1) (fun q => rS_a (j := 9) (by decide) q) (bW_a (j := 9) (by decide) h.2.2.2.2.1) (by rw [bup_ne _ _ (by omega)])
theorem tt_10 {w np na k : Nat} {z e x : Int32} {I0 J0 I J : MI} (hw : w = 2 ∨ w = 111) (hk : k < 18) (hx : x = 0 ∨ x = 1) (h : TT w np na z e I0 J0 I J) : TT w np na z e I0 J0 (bup I (w + 10) (upd (I (w + 10)) k x)) (bup J 208 (upd (J 208) (77 + k) x)) := tt_w hw (by omega) h (rW_a10 hk h.2.2.1) (fun q => rS_a (j := 10) (by decide) q) (bW_a10 hx h.2.2.2.2.1) (by rw [bup_ne _ _ (by omega)])
theorem tt_1 {w np na k : Nat} {z e x : Int32} {I0 J0 I J : MI} (hw : w = 2 ∨ w = 111) (hk : k < 10) (h : TT w np na z e I0 J0 I J) : TT w np na z e I0 J0 (bup I (w + 1) (upd (I (w + 1)) k x)) (bup J 208 (upd (J 208) (7 + k) x)) := tt_w hw (by omega) h (rW_a1 hk h.2.2.1) (fun q => rS_a (j := 1) (by decide) q) (bW_a (j := 1) (by decide) h.2.2.2.2.1) (by rw [bup_ne _ _ (by omega)])
theorem tt_f0 {w np na : Nat} {z e x : Int32} {I0 J0 I J : MI} (hw : w = 2 ∨ w = 111) (h : TT w np na z e I0 J0 I J) : TT w np na z e I0 J0 (bup I w (upd (I w) 0 x)) (bup J 208 (upd (J 208) 2 x)) := tt_w hw (by omega) h (rW_f0 h.2.2.1) (fun q => rS_f (by decide) (by decide) q) (bW_f (by decide) h.2.2.2.2.1) (by rw [bup_eq, upd_ne _ _ (by decide)])
theorem tt_f1 {w np na : Nat} {z e x : Int32} {I0 J0 I J : MI} (hw : w = 2 ∨ w = 111) (h : TT w np na z e I0 J0 I J) : TT w np na z e I0 J0 (bup I w (upd (I w) 1 x)) (bup J 208 (upd (J 208) 4 x)) := tt_w hw (by omega) h (rW_f1 h.2.2.1) (fun q => rS_f (by decide) (by decide) q) (bW_f (by decide) h.2.2.2.2.1) (by rw [bup_eq, upd_ne _ _ (by decide)])
theorem tt_f2 {w np na : Nat} {z e x : Int32} {I0 J0 I J : MI} (hw : w = 2 ∨ w = 111) (h : TT w np na z e I0 J0 I J) : TT w np na z e I0 J0 (bup I w (upd (I w) 2 x)) (bup J 208 (upd (J 208) 5 x)) := tt_w hw (by omega) h (rW_f2 h.2.2.1) (fun q => rS_f (by decide) (by decide) q) (bW_f (by decide) h.2.2.2.2.1) (by rw [bup_eq, upd_ne _ _ (by decide)])
theorem tt_f3 {w np na : Nat} {z e x : Int32} {I0 J0 I J : MI} (hw : w = 2 ∨ w = 111) (h : TT w np na z e I0 J0 I J) : TT w np na z x I0 J0 (bup I w (upd (I w) 3 x)) (bup J 208 (upd (J 208) 6 x)) := by
  obtain ⟨h1, h2, h3, h4, h5, h6, h7⟩ := h
  refine ⟨fun b n1 n2 n3 => ?_, fun b n1 n2 n3 n4 => ?_, ?_, ?_, bW_f (by decide) h5, ?_, by rw [bup_eq, upd_eq]⟩
  · rw [bup_ne _ _ (by omega)]; exact h1 b n1 n2 n3
  · rw [bup_ne _ _ n1]; exact h2 b n1 n2 n3 n4
  · rw [bup_eq]; exact rW_f3 h3
  · rw [bup_ne J (a := 208) (b := 207) _ (by decide), bup_ne J (a := 208) (b := 211) _ (by decide), bup_ne J (a := 208) (b := 212) _ (by decide), bup_ne J (a := 208) (b := 213) _ (by decide), bup_ne J (a := 208) (b := 214) _ (by decide)]
    exact rS_f (by decide) (by decide) h4
  · rw [bup_ne I (a := w) (b := 14) _ (by omega), bup_ne J (a := 208) (b := 215) _ (by decide)]
    exact h6
theorem tt_f5 {w np na : Nat} {z e x : Int32} {I0 J0 I J : MI} (hw : w = 2 ∨ w = 111) (h : TT w np na z e I0 J0 I J) : TT w np na z e I0 J0 (bup I w (upd (I w) 5 x)) (bup J 208 (upd (J 208) 0 x)) := tt_w hw (by omega) h (rW_f5 h.2.2.1) (fun q => rS_f (by decide) (by decide) q) (bW_f (by decide) h.2.2.2.2.1) (by rw [bup_eq, upd_ne _ _ (by decide)])
theorem tt_f4 {w np na q : Nat} {z e : Int32} {I0 J0 I J : MI} (hw : w = 2 ∨ w = 111) (hq : q < 24) (h : TT w np na z e I0 J0 I J) : TT w np na z e I0 J0 (bup I w (upd (I w) 4 (nn q))) (bup J 208 (upd (J 208) 1 (nn q))) := tt_w hw (by omega) h (rW_f4 h.2.2.1) (fun q => rS_f (by decide) (by decide) q) (bW_f4 hq h.2.2.2.2.1) (by rw [bup_eq, upd_ne _ _ (by decide)])
theorem tt_f6 {w np na q : Nat} {z e : Int32} {I0 J0 I J : MI} (hw : w = 2 ∨ w = 111) (hq : q ≤ 150) (h : TT w np na z e I0 J0 I J) : TT w np na z e I0 J0 (bup I w (upd (I w) 6 (nn q))) (bup J 208 (upd (J 208) 3 (nn q))) := tt_w hw (by omega) h (rW_f6 h.2.2.1) (fun q => rS_f (by decide) (by decide) q) (bW_f6 hq h.2.2.2.2.1) (by rw [bup_eq, upd_ne _ _ (by decide)])
theorem tt_bk {w np na : Nat} {e : Int32} {I0 J0 I J : MI} {G R : Nat → Int32} (hw : w = 2 ∨ w = 111) (h : TT w np na 0 e I0 J0 I J) (hb : bBk G R) : TT w np na 0 e I0 J0 (bup I 14 G) (bup J 215 R) := by
  obtain ⟨h1, h2, h3, h4, h5, h6, h7⟩ := h
  have hc : ∀ c, w ≤ c → c < w + 11 → bup I 14 G c = I c := fun c n1 n2 => bup_ne _ _ (by omega)
  refine ⟨fun b n1 n2 n3 => ?_, fun b n1 n2 n3 n4 => ?_, ?_, ?_, k_bW hc h5, Or.inl ⟨rfl, ?_⟩, by rw [hc w (by omega) (by omega)]; exact h7⟩
  · rw [bup_ne _ _ n1]; exact h1 b n1 n2 n3
  · rw [bup_ne _ _ n2]; exact h2 b n1 n2 n3 n4
  · rw [bup_ne J (a := 215) (b := 208) _ (by decide)]; exact k_rW hc h3
  · rw [bup_ne J (a := 215) (b := 207) _ (by decide), bup_ne J (a := 215) (b := 211) _ (by decide), bup_ne J (a := 215) (b := 212) _ (by decide), bup_ne J (a := 215) (b := 213) _ (by decide), bup_ne J (a := 215) (b := 214) _ (by decide)]
    exact k_rS hc h4
  · rw [bup_eq, bup_eq]; exact hb
theorem tt_same {w np na : Nat} {z e : Int32} {I0 J0 I J I1 J1 : MI} (hw : w = 2 ∨ w = 111) (h : TT w np na z e I0 J0 I J) (a1 : ∀ a, a ≠ 20 → I1 a = I a) (a2 : ∀ a, a ≠ 229 → a ≠ 230 → J1 a = J a) : TT w np na z e I0 J0 I1 J1 := by
  obtain ⟨h1, h2, h3, h4, h5, h6, h7⟩ := h
  have hc : ∀ c, w ≤ c → c < w + 11 → I1 c = I c := fun c n1 n2 => a1 c (by omega)
  refine ⟨fun b n1 n2 n3 => ?_, fun b n1 n2 n3 n4 => ?_, ?_, ?_, k_bW hc h5, ?_, by rw [hc w (by omega) (by omega)]; exact h7⟩
  · rw [a1 b n2]; exact h1 b n1 n2 n3
  · rw [a2 b n3 n4]; exact h2 b n1 n2 n3 n4
  · rw [a2 208 (by decide) (by decide)]; exact k_rW hc h3
  · rw [a2 207 (by decide) (by decide), a2 211 (by decide) (by decide), a2 212 (by decide) (by decide), a2 213 (by decide) (by decide), a2 214 (by decide) (by decide)]
    exact k_rS hc h4
  · rw [a1 14 (by decide), a2 215 (by decide) (by decide)]; exact h6
theorem h_out {w np na k s : Nat} {z e : Int32} {I0 J0 I J : MI} (hw : w = 2 ∨ w = 111) (h : TT w np na z e I0 J0 I J) (hk : k < 18) (hs : s < 10) : Ok (F_World_walkOut w (nn k) (nn s)) I fun _ I1 => Ok (F_R_goesOut (nn k) (nn s)) J fun _ J1 => TT w np na z e I0 J0 I1 J1 := by
  have e1 : inR (nn k) 18 = true := inR_nn hk (by omega)
  have e2 : (nn k).toNatClampNeg = k := nn_nat (by omega)
  have e3 : (41 : Int32) + nn k = nn (41 + k) := nn_add 41 k
  have e4 : (23 : Int32) + nn k = nn (23 + k) := nn_add 23 k
  have e5 : inR (nn (41 + k)) 95 = true := inR_nn (by omega) (by omega)
  have e6 : inR (nn (23 + k)) 95 = true := inR_nn (by omega) (by omega)
  have e7 : (nn (41 + k)).toNatClampNeg = 41 + k := nn_nat (by omega)
  have e8 : (nn (23 + k)).toNatClampNeg = 23 + k := nn_nat (by omega)
  unfold F_World_walkOut F_R_goesOut
  simp only [ok_bn, ok_sr, ok_rt, e1, e2, e3, e4, e5, e6, e7, e8, true_and]
  exact tt_7 hw hk hs (tt_8 hw hk (Or.inr rfl) h)
theorem h_home {w np na k : Nat} {z e : Int32} {I0 J0 I J : MI} (hw : w = 2 ∨ w = 111) (h : TT w np na z e I0 J0 I J) (hk : k < na) : Ok (F_World_lieDown w (nn k)) I fun _ I1 => Ok (F_R_goesHome (nn k)) J fun _ J1 => TT w np na z e I0 J0 I1 J1 := by
  obtain ⟨-, -, -, hS, ⟨-, -, -, hna, -, -, -, hh, -⟩, -⟩ := id h
  have hk2 : k < 18 := by omega
  obtain ⟨s, hs, hq⟩ := hh k hk
  have hq2 : J 214 k = nn s := (hS.2.2.2.2.2 k hk2).trans hq
  have e1 : inR (nn k) 18 = true := inR_nn hk2 (by omega)
  have e2 : (nn k).toNatClampNeg = k := nn_nat (by omega)
  have e3 : (41 : Int32) + nn k = nn (41 + k) := nn_add 41 k
  have e4 : (23 : Int32) + nn k = nn (23 + k) := nn_add 23 k
  have e5 : inR (nn (41 + k)) 95 = true := inR_nn (by omega) (by omega)
  have e6 : inR (nn (23 + k)) 95 = true := inR_nn (by omega) (by omega)
  have e7 : (nn (41 + k)).toNatClampNeg = 41 + k := nn_nat (by omega)
  have e8 : (nn (23 + k)).toNatClampNeg = 23 + k := nn_nat (by omega)
  have e9 : ∀ g, (bup I (w + 8) g) (w + 6) k = nn s := fun g => by rw [bup_ne _ _ (by omega)]; exact hq
  have e10 : ∀ g, (bup J 208 g) 214 k = nn s := fun g => by rw [bup_ne _ _ (by decide)]; exact hq2
  unfold F_World_lieDown F_R_goesHome
  simp only [ok_bn, ok_sr, ok_ld, ok_rt, e1, e2, e3, e4, e5, e6, e7, e8, e9, e10, true_and]
  exact tt_7 hw hk2 hs (tt_8 hw hk2 (Or.inl rfl) h)
theorem min_nn {m b : Nat} (hm : m < 2 ^ 31) (hb : b < 2 ^ 31) : (if nn m < nn b then nn m else nn b) = nn (min m b) := by
  by_cases h : m < b
  · rw [if_pos ((nn_lt hm hb).mpr h), Nat.min_eq_left (by omega)]
  · rw [if_neg (fun q => h ((nn_lt hm hb).mp q)), Nat.min_eq_right (by omega)]
theorem ls_nn {m b : Nat} (hm : m < 2 ^ 31) (hb : b < 2 ^ 31) : F_R_lesser (nn b) (nn m) = rt (nn (min m b)) := by
  rw [le_R]
  congr 1
  rw [min_nn hb hm, Nat.min_comm]
theorem give_A {w p q v : Nat} {I : MI} (hp : p < 6) (hq : I (w + 3) p = nn q) (hq2 : q ≤ 9999) (hv : v ≤ 9999) : F_World_give w (nn p) (nn v) I = some ((), bup I (w + 3) (upd (I (w + 3)) p (nn (min (q + v) 9999)))) := by
  have e1 : inR (nn p) 6 = true := inR_nn hp (by omega)
  have e2 : (nn p).toNatClampNeg = p := nn_nat (by omega)
  have e3 : nn q + nn v = nn (q + v) := nn_add q v
  have e4 : (if nn (q + v) < 9999 then nn (q + v) else 9999) = nn (min (q + v) 9999) := min_nn (b := 9999) (by omega) (by omega)
  have hO : Ok (F_World_give w (nn p) (nn v)) I fun _ K => K = bup I (w + 3) (upd (I (w + 3)) p (nn (min (q + v) 9999))) := by
    unfold F_World_give
    simp only [ok_bn, ok_sr, ok_ld, ok_rt, e1, e2, hq, e3, e4, true_and]
  obtain ⟨_, K, h1, rfl⟩ := hO
  exact h1
theorem charge_A {w p q v : Nat} {I : MI} (hp : p < 6) (hq : I (w + 3) p = nn q) (hq2 : q ≤ 9999) (hv : v ≤ 9999) : F_World_charge w (nn p) (nn v) I = some ((), bup (bup I (w + 3) (upd (I (w + 3)) p (nn (q - min v q)))) w (upd (I w) 1 (I w 1 + nn (v - min v q)))) := by
  have e1 : inR (nn p) 6 = true := inR_nn hp (by omega)
  have e2 : (nn p).toNatClampNeg = p := nn_nat (by omega)
  have e4 : (if nn v < nn q then nn v else nn q) = nn (min v q) := min_nn (by omega) (by omega)
  have e5 : nn q - nn (min v q) = nn (q - min v q) := nn_sub (by omega)
  have e6 : nn v - nn (min v q) = nn (v - min v q) := nn_sub (by omega)
  have e7 : ∀ g, (bup I (w + 3) g) w = I w := fun g => bup_ne _ _ (by omega)
  have hO : Ok (F_World_charge w (nn p) (nn v)) I fun _ K => K = bup (bup I (w + 3) (upd (I (w + 3)) p (nn (q - min v q)))) w (upd (I w) 1 (I w 1 + nn (v - min v q))) := by
    unfold F_World_charge
    simp only [ok_bn, ok_sr, ok_ld, ok_rd, ok_wr, ok_rt, e1, e2, hq, e4, e5, e6, e7, true_and]
  obtain ⟨_, K, h1, rfl⟩ := hO
  exact h1
theorem h_draw {w np na : Nat} {z e : Int32} {I0 J0 I J : MI} (hw : w = 2 ∨ w = 111) (h : TT w np na z e I0 J0 I J) : Ok (F_World_draw w 1000) I fun v I1 => Ok (F_R_draw 1000) J fun u J1 => u = v ∧ TT w np na z e I0 J0 I1 J1 := by
  have r2 : J 208 2 = I w 0 := h.2.2.1.2.2.1
  have dv : ∀ {β : Type} (m : M β), dvI (1000 : Int32) m = m := fun m => dvI_ne m (by decide)
  have e1 : (1664525 : Int32) * I w 0 + 1013904223 = I w 0 * 1664525 + 1013904223 := by rw [Int32.mul_comm]
  have i2 : inR (2 : Int32) 95 = true := by decide
  have t2 : (2 : Int32).toNatClampNeg = 2 := by decide
  unfold F_World_draw F_R_draw
  simp (decide := true) only [ok_bn, ok_sr, ok_ld, ok_rd, ok_wr, ok_rt, ok_ite, dv, r2, i2, t2, e1, bup_eq, upd_eq, if_true, true_and]
  exact tt_f0 hw h
theorem h_write {w np na : Nat} {e a b c : Int32} {I0 J0 I J : MI} (hw : w = 2 ∨ w = 111) (h5 : J 207 5 = 0) (h : TT w np na 0 e I0 J0 I J) : Ok (F_Book_write 13 w a b c) I fun _ I1 => Ok (F_R_writes a b c) J fun _ J1 => TT w np na 0 e I0 J0 I1 J1 := by
  obtain ⟨-, -, hR, -, ⟨-, -, -, -, -, ⟨l, hl, h6⟩, -⟩, hB, -⟩ := id h
  have hB2 : bBk (I 14) (J 215) := by
    rcases hB with ⟨-, q⟩ | ⟨q, -⟩
    · exact q
    · exact absurd q (by decide)
  obtain ⟨r0, r1, -, r3, -⟩ := hR
  have r3' : J 208 3 = nn l := r3.trans h6
  have g1 : ¬ nn l < 0 := nn_neg (by omega)
  unfold F_Book_write F_R_writes
  by_cases hl2 : l = 150
  · have g2 : ¬ nn l < 150 := by subst hl2; decide
    have g3 : nn l = 150 := by subst hl2; rfl
    have i3 : inR (3 : Int32) 95 = true := by decide
    have t3 : (3 : Int32).toNatClampNeg = 3 := by decide
    simp only [ok_bn, ok_rd, ok_ld, ok_rt, ok_ite, h5, h6, if_neg g1, if_neg g2, i3, t3, r3', if_pos g3, if_true, true_and]
    exact h
  · have g2 : nn l < 150 := (nn_lt (k := 150) (by omega) (by omega)).mpr (by omega)
    have g3 : ¬ nn l = 150 := nn_ne (k := 150) (by omega) (by omega) (by omega)
    have i3 : inR (3 : Int32) 95 = true := by decide
    have t3 : (3 : Int32).toNatClampNeg = 3 := by decide
    have i0 : inR (0 : Int32) 95 = true := by decide
    have t0 : (0 : Int32).toNatClampNeg = 0 := by decide
    have i1 : inR (1 : Int32) 95 = true := by decide
    have t1 : (1 : Int32).toNatClampNeg = 1 := by decide
    have m1 : nn l * 5 = nn (5 * l) := by rw [Int32.mul_comm]; exact nn_mul 5 l
    have m2 : (5 : Int32) * nn l = nn (5 * l) := nn_mul 5 l
    have m3 : nn (5 * l) + (1 : Int32) = nn (5 * l + 1) := nn_add _ 1
    have m4 : nn (5 * l) + (2 : Int32) = nn (5 * l + 2) := nn_add _ 2
    have m5 : nn (5 * l) + (3 : Int32) = nn (5 * l + 3) := nn_add _ 3
    have m6 : nn (5 * l) + (4 : Int32) = nn (5 * l + 4) := nn_add _ 4
    have x : ∀ j, j < 5 → inR (nn (5 * l + j)) 750 = true ∧ (nn (5 * l + j)).toNatClampNeg = 5 * l + j := fun j hj => ⟨inR_nn (by omega) (by omega), nn_nat (by omega)⟩
    have x0 : inR (nn (5 * l)) 750 = true ∧ (nn (5 * l)).toNatClampNeg = 5 * l := x 0 (by omega)
    have x1 := x 1 (by omega)
    have x2 := x 2 (by omega)
    have x3 := x 3 (by omega)
    have x4 := x 4 (by omega)
    have nw : ∀ g (K : MI), (bup K 14 g) w = K w := fun g K => bup_ne _ _ (by omega)
    have nj : ∀ g (K : MI), (bup K 215 g) 208 = K 208 := fun g K => bup_ne _ _ (by decide)
    have nj5 : ∀ g (K : MI), (bup K 215 g) 207 = K 207 := fun g K => bup_ne _ _ (by decide)
    have el : nn l + 1 = nn (l + 1) := nn_s l
    simp (decide := true) only [ok_bn, ok_rd, ok_ld, ok_sr, ok_wr, ok_rt, ok_ite, h5, h6, if_neg g1, if_pos g2, i3, t3, i0, t0, i1, t1, r0, r1, r3', if_neg g3, if_true, true_and, nw, nj, nj5, m1, m2, m3, m4, m5, m6, x0.1, x0.2, x1.1, x1.2, x2.1, x2.2, x3.1, x3.2, x4.1, x4.2, bup_bup, bup_eq, el]
    have k1 := tt_bk (I := I) (J := J) hw h (G := upd (upd (upd (upd (upd (I 14) (5 * l) (I w 5)) (5 * l + 1) (I w 4)) (5 * l + 2) a) (5 * l + 3) b) (5 * l + 4) c) (R := upd (upd (upd (upd (upd (J 215) (5 * l) (I w 5)) (5 * l + 1) (I w 4)) (5 * l + 2) a) (5 * l + 3) b) (5 * l + 4) c) (upd_congr (upd_congr (upd_congr (upd_congr (upd_congr hB2)))))
    have k2 := tt_f6 hw (q := l + 1) (by omega) k1
    rw [nw, nj] at k2
    exact k2
end SC30
