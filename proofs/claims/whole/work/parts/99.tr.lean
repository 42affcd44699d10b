/-! text: what stays, and all put together -/
section TA991
def kpC (a k : Nat) : Bool := !(decide (a = 93 ∨ a = 107 ∨ a = 108 ∨ a = 109)) && kpI a k
def kqJ (a k : Nat) : Bool := if a = 207 then !(decide (k = 0 ∨ k = 14 ∨ k = 15 ∨ k = 16 ∨ k = 17 ∨ k = 18 ∨ k = 27 ∨ k = 28 ∨ k = 29 ∨ k = 31 ∨ k = 32 ∨ k = 33 ∨ k = 34 ∨ k = 35)) else kpJ a k
def txI : List Nat := [93, 95, 96, 97, 98, 100, 101, 102, 103, 104, 105, 107, 108, 109]
def txJ : List Nat := [219, 220, 221, 222, 223, 224, 225, 226, 227, 228]
def txF : List Nat := [0, 14, 15, 16, 17, 18, 27, 28, 29, 31, 32, 33, 34, 35]
theorem nmem {c a : Nat} {l : List Nat} (hc : memN c l = false) (ha : memN a l = true) : c ≠ a := fun e => by rw [e, ha] at hc; cases hc
theorem kpC_of {c k : Nat} (hc : memN c txI = false) : kpC c k = true := by
  have n := fun {a : Nat} (ha : memN a txI = true) => nmem hc ha
  simp [kpC, kpI, n (a := 93) rfl, n (a := 95) rfl, n (a := 96) rfl, n (a := 97) rfl, n (a := 98) rfl, n (a := 100) rfl, n (a := 101) rfl, n (a := 102) rfl, n (a := 103) rfl, n (a := 104) rfl, n (a := 105) rfl, n (a := 107) rfl, n (a := 108) rfl, n (a := 109) rfl]
theorem kqJ_of {c k : Nat} (hc : memN c (207 :: txJ) = false) : kqJ c k = true := by
  have n := fun {a : Nat} (ha : memN a (207 :: txJ) = true) => nmem hc ha
  simp [kqJ, kpJ, n (a := 207) rfl, n (a := 219) rfl, n (a := 220) rfl, n (a := 221) rfl, n (a := 222) rfl, n (a := 223) rfl, n (a := 224) rfl, n (a := 225) rfl, n (a := 226) rfl, n (a := 227) rfl, n (a := 228) rfl]
theorem kqJ_fld {k : Nat} (hc : memN k txF = false) : kqJ 207 k = true := by
  have n := fun {a : Nat} (ha : memN a txF = true) => nmem hc ha
  simp [kqJ, n (a := 0) rfl, n (a := 14) rfl, n (a := 15) rfl, n (a := 16) rfl, n (a := 17) rfl, n (a := 18) rfl, n (a := 27) rfl, n (a := 28) rfl, n (a := 29) rfl, n (a := 31) rfl, n (a := 32) rfl, n (a := 33) rfl, n (a := 34) rfl, n (a := 35) rfl]
theorem tab_C : tabL.all (fun t => kpC t 0 && kpC t 1) = true := by decide
theorem q_1 {a k : Nat} (ha : a = 219 ∨ a = 220 ∨ a = 221 ∨ a = 222) (h : k < 32) : kqJ a k = true := by
  rcases ha with e | e | e | e <;> (rw [e]; simp [kqJ, kpJ, h])
theorem q_2 {a k : Nat} (ha : a = 223 ∨ a = 224) (h : k < 800) : kqJ a k = true := by
  rcases ha with e | e <;> (rw [e]; simp [kqJ, kpJ, h])
theorem q_6 {k : Nat} (h : k < 64) : kqJ 226 k = true := by simp [kqJ, kpJ, h]
theorem q_7 {k : Nat} (h : k < 80) : kqJ 227 k = true := by simp [kqJ, kpJ, h]
theorem q_8 {k : Nat} (h : k < 10) : kqJ 228 k = true := by simp [kqJ, kpJ, h]
theorem rl_mid {I J K L : MI} (hr : Rl I J) (hI : ∀ a k, kpC a k = true → K a k = I a k) (hJ : ∀ a k, kqJ a k = true → L a k = J a k) (t0 : K 93 0 = 0) (t14 : L 207 14 = 0) (t34 : L 207 34 = K 93 1) (t35 : L 207 35 = K 93 2) : Rl K L := by
  obtain ⟨⟨-, -, k3, k4, k5, k6, -⟩, kt, -⟩ := id hr
  have hu : UI txI I K := fun c hc => funext fun k => hI c k (kpC_of hc)
  have hv : UJ txJ txF J L := ⟨fun c hc => funext fun k => hJ c k (kqJ_of hc), fun k hk => hJ 207 k (kqJ_fld hk)⟩
  have ht : UT I K := fun t h => by
    have q := List.all_eq_true.mp tab_C t (memN_iff.mp h)
    rw [Bool.and_eq_true] at q
    exact ⟨hI t 0 q.1, hI t 1 q.2⟩
  have eI : ∀ a, memN a txI = false → K a = I a := hu
  refine rl_of hr hu hv ht (hI 0 2 rfl) (Or.inl (by decide)) (Or.inl (by decide)) (Or.inr ?_) (Or.inr ?_) (Or.inr ?_) (Or.inr ?_) (Or.inl (by decide)) (Or.inl (by decide)) (Or.inl (by decide)) (Or.inl (by decide)) (Or.inl (by decide)) (Or.inl (by decide)) (Or.inl (by decide)) (Or.inl (by decide)) (Or.inl (by decide)) (Or.inl (by decide)) (Or.inr ?_) (Or.inl ⟨hI 0 8 rfl, hI 0 9 rfl, by decide⟩) (Or.inl (by decide)) (Or.inl (by decide))
  · obtain ⟨n, a1, a2, a3, a4, a5⟩ := k3
    unfold bLaw
    rw [eI 16 rfl, eI 17 rfl, eI 18 rfl, eI 19 rfl]
    refine ⟨n, a1, a2, by rw [hJ 218 0 rfl]; exact a3, a4, fun i hi => ?_⟩
    obtain ⟨⟨v, v1, v2, v3⟩, f, m, t, b1, b2, b3, b4, b5, b6, b7, b8, b9, b10, ⟨z, hz, b11⟩, b12⟩ := a5 i hi
    have i32 : i < 32 := by omega
    have co : ∀ k, k < 400 → L 223 k = J 223 k ∧ L 224 k = J 224 k := fun k hk => ⟨hJ 223 k (q_2 (Or.inl rfl) (by omega)), hJ 224 k (q_2 (Or.inr rfl) (by omega))⟩
    refine ⟨⟨v, v1, v2, by rw [hJ 219 i (q_1 (Or.inl rfl) i32)]; exact v3⟩, f, m, t, b1, b2, b3, b4, by rw [hJ 220 i (q_1 (Or.inr (Or.inl rfl)) i32)]; exact b5, b6, by rw [hJ 221 i (q_1 (Or.inr (Or.inr (Or.inl rfl))) i32)]; exact b7, b8, by rw [hJ 222 i (q_1 (Or.inr (Or.inr (Or.inr rfl))) i32)]; exact b9, fun k k1 k2 => ?_, ⟨z, hz, ?_⟩, fun hlt => ?_⟩
    · rw [(co k (by omega)).1, (co k (by omega)).2]
      exact b10 k k1 k2
    · rw [← b11]
      exact tyRun_co _ _ _ fun j q1 q2 => co j (by omega)
    · rw [← b12 hlt]
      exact tyRun_co _ _ _ fun j q1 q2 => co j (by omega)
  · obtain ⟨n, a1, a2, a3, a4⟩ := k4
    unfold bSha
    rw [eI 21 rfl, eI 22 rfl]
    refine ⟨n, a1, a2, by rw [hJ 207 36 rfl]; exact a3, fun i hi => ?_⟩
    rw [hJ 226 _ (q_6 (by omega)), hJ 226 _ (q_6 (by omega)), hJ 226 _ (q_6 (by omega)), hJ 226 _ (q_6 (by omega))]
    exact a4 i hi
  · obtain ⟨n, a1, a2, a3, np, na, a4, a5, a6, a7, a8⟩ := k5
    unfold bDia
    rw [eI 23 rfl, eI 24 rfl, eI 2 rfl]
    refine ⟨n, a1, a2, by rw [hJ 207 38 rfl]; exact a3, np, na, a4, a5, a6, a7, fun i hi => ?_⟩
    rw [hJ 227 _ (q_7 (by omega)), hJ 227 _ (q_7 (by omega)), hJ 227 _ (q_7 (by omega)), hJ 227 _ (q_7 (by omega)), hJ 227 _ (q_7 (by omega))]
    exact a8 i hi
  · obtain ⟨n, a1, a2, a3, f, g, a4, a5⟩ := k6
    unfold bWay
    rw [eI 25 rfl, eI 26 rfl]
    refine ⟨n, a1, a2, by rw [hJ 207 40 rfl]; exact a3, f, g, a4, fun s hs => ?_⟩
    rw [hJ 228 s (q_8 hs)]
    exact a5 s hs
  · obtain ⟨_, c1, _, _⟩ := kt
    refine ⟨⟨0, Nat.zero_le _, t0, t14⟩, fun k hk => ?_, t34, t35⟩
    rw [eI 106 rfl, hJ 216 k rfl]
    exact c1 k hk
/-! the text is taken -/
theorem fin_law {I J K L : MI} {n : Nat} (hr : Rl I J) (a1 : ∀ a, a ≠ 16 → a ≠ 17 → a ≠ 18 → a ≠ 19 → K a = I a) (a2 : K 17 = upd (I 17) 3 (nn n)) (b1 : ∀ a, a ≠ 218 → a ≠ 219 → a ≠ 220 → a ≠ 221 → a ≠ 222 → a ≠ 223 → a ≠ 224 → L a = J a) (hl : bLaw K 16 L) : Rl K L := by
  refine rl_3 [16, 17, 18, 19] [218, 219, 220, 221, 222, 223, 224] [] hr (fun c hc => a1 c (nmem hc rfl) (nmem hc rfl) (nmem hc rfl) (nmem hc rfl)) ⟨fun c hc => b1 c (nmem hc rfl) (nmem hc rfl) (nmem hc rfl) (nmem hc rfl) (nmem hc rfl) (nmem hc rfl) (nmem hc rfl), fun k _ => by rw [b1 207 (by decide) (by decide) (by decide) (by decide) (by decide) (by decide) (by decide)]⟩ (fun t h => ?_) (by rw [a1 0 (by decide) (by decide) (by decide) (by decide)]) (by rw [a1 0 (by decide) (by decide) (by decide) (by decide)]) (by rw [a1 0 (by decide) (by decide) (by decide) (by decide)]) hl rfl
  by_cases e : t = 17
  · rw [e, a2, upd_ne _ _ (by decide), upd_ne _ _ (by decide)]; exact ⟨rfl, rfl⟩
  · have n : ∀ a, memN a tabL = false → t ≠ a := fun a ha z => by rw [z, ha] at h; cases h
    rw [a1 t (n 16 rfl) e (n 18 rfl) (n 19 rfl)]; exact ⟨rfl, rfl⟩
theorem fin_way {I J K L : MI} {n : Nat} (hr : Rl I J) (a1 : ∀ a, a ≠ 25 → a ≠ 26 → K a = I a) (a2 : K 25 = upd (I 25) 3 (nn n)) (b1 : ∀ a, a ≠ 207 → a ≠ 228 → L a = J a) (b2 : ∀ k, k ≠ 40 → L 207 k = J 207 k) (hl : bWay K 25 L) : Rl K L := by
  refine rl_6 [25, 26] [228] [40] hr (fun c hc => a1 c (nmem hc rfl) (nmem hc rfl)) ⟨fun c hc => b1 c (nmem hc rfl) (nmem hc rfl), fun k hk => b2 k (nmem hk rfl)⟩ (fun t h => ?_) (by rw [a1 0 (by decide) (by decide)]) (by rw [a1 0 (by decide) (by decide)]) (by rw [a1 0 (by decide) (by decide)]) hl rfl
  by_cases e : t = 25
  · rw [e, a2, upd_ne _ _ (by decide), upd_ne _ _ (by decide)]; exact ⟨rfl, rfl⟩
  · have n : ∀ a, memN a tabL = false → t ≠ a := fun a ha z => by rw [z, ha] at h; cases h
    rw [a1 t e (n 26 rfl)]; exact ⟨rfl, rfl⟩
theorem fin_sha {I J K L : MI} {n : Nat} (hr : Rl I J) (a1 : ∀ a, a ≠ 21 → a ≠ 22 → K a = I a) (a2 : K 21 = upd (I 21) 3 (nn n)) (b1 : ∀ a, a ≠ 207 → a ≠ 226 → L a = J a) (b2 : ∀ k, k ≠ 36 → k ≠ 3 → L 207 k = J 207 k) (b3 : L 207 3 = 0) (hl : bSha K 21 L) : Rl (bup K 0 (upd (K 0) 9 0)) L := by
  obtain ⟨-, -, ⟨m, cc, p1, -, p3, -⟩, -⟩ := id hr
  have e0 : K 0 = I 0 := a1 0 (by decide) (by decide)
  refine rl_of (l := [0, 21, 22]) (m := [226]) (f := [36, 3]) hr (fun c hc => ?_) ⟨fun c hc => b1 c (nmem hc rfl) (nmem hc rfl), fun k hk => b2 k (nmem hk rfl) (nmem hk rfl)⟩ (fun t h => ?_) ?_ (Or.inl (by decide)) (Or.inl (by decide)) (Or.inl (by decide)) (Or.inr ?_) (Or.inl (by decide)) (Or.inl (by decide)) (Or.inl (by decide)) (Or.inl (by decide)) (Or.inl (by decide)) (Or.inl (by decide)) (Or.inl (by decide)) (Or.inl (by decide)) (Or.inl (by decide)) (Or.inl (by decide)) (Or.inl (by decide)) (Or.inl (by decide)) (Or.inl (by decide)) (Or.inr ?_) (Or.inl (by decide)) (Or.inl (by decide))
  · rw [bup_ne _ _ (nmem hc rfl)]
    exact a1 c (nmem hc rfl) (nmem hc rfl)
  · have n : ∀ a, memN a tabL = false → t ≠ a := fun a ha z => by rw [z, ha] at h; cases h
    rw [bup_ne _ _ (n 0 rfl)]
    by_cases e : t = 21
    · rw [e, a2, upd_ne _ _ (by decide), upd_ne _ _ (by decide)]; exact ⟨rfl, rfl⟩
    · rw [a1 t e (n 22 rfl)]; exact ⟨rfl, rfl⟩
  · rw [bup_eq, upd_ne _ _ (by decide), e0]
  · unfold bSha at hl ⊢
    rw [bup_ne _ _ (by decide), bup_ne _ _ (by decide)]
    exact hl
  · exact pst_0 p1 (by rw [bup_eq, upd_ne _ _ (by decide), e0]; exact p3) (by rw [bup_eq, upd_eq]) b3
theorem fin_dia {I J K L : MI} {n : Nat} (hr : Rl I J) (a1 : ∀ a, a ≠ 23 → a ≠ 24 → K a = I a) (a2 : K 23 = upd (I 23) 3 (nn n)) (b1 : ∀ a, a ≠ 207 → a ≠ 227 → L a = J a) (b2 : ∀ k, k ≠ 38 → k ≠ 3 → L 207 k = J 207 k) (b3 : L 207 3 = 0) (hl : bDia K 23 2 L) : Rl (bup K 0 (upd (K 0) 9 0)) L := by
  obtain ⟨-, -, ⟨m, cc, p1, -, p3, -⟩, -⟩ := id hr
  have e0 : K 0 = I 0 := a1 0 (by decide) (by decide)
  refine rl_of (l := [0, 23, 24]) (m := [227]) (f := [38, 3]) hr (fun c hc => ?_) ⟨fun c hc => b1 c (nmem hc rfl) (nmem hc rfl), fun k hk => b2 k (nmem hk rfl) (nmem hk rfl)⟩ (fun t h => ?_) ?_ (Or.inl (by decide)) (Or.inl (by decide)) (Or.inl (by decide)) (Or.inl (by decide)) (Or.inr ?_) (Or.inl (by decide)) (Or.inl (by decide)) (Or.inl (by decide)) (Or.inl (by decide)) (Or.inl (by decide)) (Or.inl (by decide)) (Or.inl (by decide)) (Or.inl (by decide)) (Or.inl (by decide)) (Or.inl (by decide)) (Or.inl (by decide)) (Or.inl (by decide)) (Or.inr ?_) (Or.inl (by decide)) (Or.inl (by decide))
  · rw [bup_ne _ _ (nmem hc rfl)]
    exact a1 c (nmem hc rfl) (nmem hc rfl)
  · have n : ∀ a, memN a tabL = false → t ≠ a := fun a ha z => by rw [z, ha] at h; cases h
    rw [bup_ne _ _ (n 0 rfl)]
    by_cases e : t = 23
    · rw [e, a2, upd_ne _ _ (by decide), upd_ne _ _ (by decide)]; exact ⟨rfl, rfl⟩
    · rw [a1 t e (n 24 rfl)]; exact ⟨rfl, rfl⟩
  · rw [bup_eq, upd_ne _ _ (by decide), e0]
  · unfold bDia at hl ⊢
    rw [bup_ne _ _ (by decide), bup_ne _ _ (by decide), bup_ne _ _ (by decide)]
    exact hl
  · exact pst_0 p1 (by rw [bup_eq, upd_ne _ _ (by decide), e0]; exact p3) (by rw [bup_eq, upd_eq]) b3
end TA991
