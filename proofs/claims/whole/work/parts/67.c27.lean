/-! act: the class keeps the past -/
section SC27
theorem suc_6 : ∀ n, n < 6 → (nn n + 1) - (nn n + 1) / 6 * 6 = nn ((n + 1) % 6) ∧ inR (nn n) 6 = true ∧ (nn n).toNatClampNeg = n := by decide
theorem min_6 : ∀ c, c < 7 → (if nn c + 1 < 6 then nn c + 1 else 6) = nn (min (c + 1) 6) := by decide
theorem keep_A {I : MI} {n c : Nat} (hn : n < 6) (hc : c ≤ 6) (h8 : I 0 8 = nn n) (h9 : I 0 9 = nn c) : F_A_keepPast I = some ((), bup (bcS I (124 + 11 * n) 2 10) 0 (upd (upd (I 0) 8 (nn ((n + 1) % 6))) 9 (nn (min (c + 1) 6)))) := by
  obtain ⟨p1, p2, p3⟩ := suc_6 n hn
  have p4 := min_6 c (by omega)
  have dv : ∀ {β : Type} (m : M β), dvI (6 : Int32) m = m := fun m => dvI_ne m (by decide)
  have hA := become (I := I) (r0 := 124 + 11 * n) (r1 := 2) (by omega)
  have o : bcS I (124 + 11 * n) 2 10 0 = I 0 := bcS_o (by omega)
  have hO : Ok F_A_keepPast I fun _ K => K = bup (bcS I (124 + 11 * n) 2 10) 0 (upd (upd (I 0) 8 (nn ((n + 1) % 6))) 9 (nn (min (c + 1) 6))) := by
    unfold F_A_keepPast
    simp (decide := true) only [ok_bn, ok_rd, ok_gd, ok_wr, ok_rt, h8, p2, p3, true_and]
    rw [ok_eq hA]
    simp (decide := true) only [ok_bn, ok_rd, ok_wr, ok_rt, dv, o, h8, h9, p1, p4, bup_eq, bup_bup, upd_ne]
  obtain ⟨_, K, q, rfl⟩ := hO
  exact q
end SC27
