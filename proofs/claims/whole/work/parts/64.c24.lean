/-! a world becomes another -/
section SC24
def lnW (j : Nat) : Nat := if j = 1 then 10 else if j ≤ 3 then 6 else 18
def bcF (I : MI) (r0 r1 i : Nat) : MI := bup I r0 fun k => if k < i then I r1 k else I r0 k
def bcS (I : MI) (r0 r1 j : Nat) : MI := fun a => if a = r0 then (fun k => if k < 9 then I r1 k else I r0 k) else if r0 < a ∧ a ≤ r0 + j then (fun k => if k < lnW (a - r0) then I (r1 + (a - r0)) k else I a k) else I a
theorem bc_f {I : MI} {r0 r1 i : Nat} (h : r1 ≠ r0) {f : Unit → M Unit} {Q : Unit → MI → Prop} : Ok (bn (rd r1 i) fun v => bn (wr r0 i v) f) (bcF I r0 r1 i) Q ↔ Ok (f ()) (bcF I r0 r1 (i + 1)) Q := by
  have e : bup (bcF I r0 r1 i) r0 (upd ((bcF I r0 r1 i) r0) i ((bcF I r0 r1 i) r1 i)) = bcF I r0 r1 (i + 1) := by
    unfold bcF
    rw [bup_bup, bup_eq, bup_ne _ _ h]
    congr 1
    funext k
    by_cases hk : k = i
    · subst hk; rw [upd_eq, if_pos (by omega)]
    · rw [upd_ne _ _ hk]
      by_cases h2 : k < i
      · rw [if_pos h2, if_pos (by omega)]
      · rw [if_neg h2, if_neg (by omega)]
  simp only [ok_bn, ok_rd, ok_wr]
  rw [e]
theorem bc_0 {I : MI} {r0 r1 : Nat} : bcF I r0 r1 0 = I := by
  unfold bcF
  exact bup_self I r0
theorem bc_9 {I : MI} {r0 r1 : Nat} : bcF I r0 r1 9 = bcS I r0 r1 0 := by
  funext a
  unfold bcF bcS bup
  by_cases h : a = r0
  · rw [if_pos h, if_pos h]
  · rw [if_neg h, if_neg h, if_neg (by omega)]
theorem bc_s {I : MI} {r0 r1 j n : Nat} {x : Int32} (h : r1 + 10 < r0 ∨ r0 + 10 < r1) (hj : j < 10) (hn : n = lnW (j + 1)) (hx : ∀ a b K, cpM n n a 0 b 0 x K = some ((), bup K b fun k => if k < n then K a k else K b k)) {f : Unit → M Unit} {Q : Unit → MI → Prop} : Ok (bn (cpM n n (r1 + (j + 1)) 0 (r0 + (j + 1)) 0 x) f) (bcS I r0 r1 j) Q ↔ Ok (f ()) (bcS I r0 r1 (j + 1)) Q := by
  rw [ok_bn, ok_eq (hx _ _ _)]
  have e1 : bcS I r0 r1 j (r1 + (j + 1)) = I (r1 + (j + 1)) := by
    unfold bcS
    rw [if_neg (by omega), if_neg (by omega)]
  have e2 : bcS I r0 r1 j (r0 + (j + 1)) = I (r0 + (j + 1)) := by
    unfold bcS
    rw [if_neg (by omega), if_neg (by omega)]
  rw [e1, e2]
  have e : (bup (bcS I r0 r1 j) (r0 + (j + 1)) fun k => if k < n then I (r1 + (j + 1)) k else I (r0 + (j + 1)) k) = bcS I r0 r1 (j + 1) := by
    funext a
    by_cases h2 : a = r0 + (j + 1)
    · subst h2
      rw [bup_eq]
      unfold bcS
      rw [if_neg (by omega), if_pos (by omega), show r0 + (j + 1) - r0 = j + 1 by omega, hn]
    · rw [bup_ne _ _ h2]
      unfold bcS
      by_cases h3 : a = r0
      · rw [if_pos h3, if_pos h3]
      · rw [if_neg h3, if_neg h3]
        by_cases h4 : r0 < a ∧ a ≤ r0 + j
        · rw [if_pos h4, if_pos (by omega)]
        · rw [if_neg h4, if_neg (by omega)]
  rw [e]
theorem cpy_0 {s d : Nat → Int32} {n : Nat} : cpyI s d 0 0 n = fun k => if k < n then s k else d k := by
  funext k
  unfold cpyI
  by_cases h : k < n
  · simp [h]
  · simp [h]
theorem cp_10 (a b : Nat) (K : MI) : cpM 10 10 a 0 b 0 10 K = some ((), bup K b fun k => if k < 10 then K a k else K b k) := by
  rw [← cpy_0]; rfl
theorem cp_6 (a b : Nat) (K : MI) : cpM 6 6 a 0 b 0 6 K = some ((), bup K b fun k => if k < 6 then K a k else K b k) := by
  rw [← cpy_0]; rfl
theorem cp_18 (a b : Nat) (K : MI) : cpM 18 18 a 0 b 0 18 K = some ((), bup K b fun k => if k < 18 then K a k else K b k) := by
  rw [← cpy_0]; rfl
theorem become {I : MI} {r0 r1 : Nat} (h : r1 + 10 < r0 ∨ r0 + 10 < r1) : F_World_become r0 r1 I = some ((), bcS I r0 r1 10) := by
  have hne : r1 ≠ r0 := by omega
  have hO : Ok (F_World_become r0 r1) (bcF I r0 r1 0) fun _ K => K = bcS I r0 r1 10 := by
    unfold F_World_become
    rw [bc_f hne, bc_f hne, bc_f hne, bc_f hne, bc_f hne, bc_f hne, bc_f hne, bc_f hne, bc_f hne, bc_9]
    refine (bc_s (j := 0) (n := 10) h (by omega) rfl cp_10).mpr ?_
    refine (bc_s (j := 1) (n := 6) h (by omega) rfl cp_6).mpr ?_
    refine (bc_s (j := 2) (n := 6) h (by omega) rfl cp_6).mpr ?_
    refine (bc_s (j := 3) (n := 18) h (by omega) rfl cp_18).mpr ?_
    refine (bc_s (j := 4) (n := 18) h (by omega) rfl cp_18).mpr ?_
    refine (bc_s (j := 5) (n := 18) h (by omega) rfl cp_18).mpr ?_
    refine (bc_s (j := 6) (n := 18) h (by omega) rfl cp_18).mpr ?_
    refine (bc_s (j := 7) (n := 18) h (by omega) rfl cp_18).mpr ?_
    refine (bc_s (j := 8) (n := 18) h (by omega) rfl cp_18).mpr ?_
    refine (bc_s (j := 9) (n := 18) h (by omega) rfl cp_18).mpr ?_
    exact ok_rt.mpr rfl
  obtain ⟨_, K, q, rfl⟩ := hO
  rw [bc_0] at q
  exact q
end SC24
