/-! the start: class and reference belong together -/
section ST91
def zrL : List (Nat × Nat) := [(3, 10), (4, 6), (5, 6), (6, 18), (7, 18), (8, 18), (9, 18), (10, 18), (11, 18), (12, 18), (208, 95), (211, 6), (212, 18), (213, 18), (214, 18), (228, 10), (235, 10), (236, 10), (242, 2), (250, 6), (2, 9)]
def zcL : List (Nat × Nat) := [(0, 2), (0, 8), (0, 9), (16, 1), (17, 3), (21, 3), (23, 3), (25, 3), (27, 3), (29, 3), (31, 3), (33, 3), (35, 3), (37, 3), (39, 3), (41, 3), (43, 3), (45, 3), (93, 0), (110, 2), (218, 0), (207, 3), (207, 5), (207, 6), (207, 7), (207, 14), (207, 36), (207, 38), (207, 40), (207, 44), (207, 49), (207, 53), (207, 57), (207, 61), (207, 63), (207, 67), (207, 70), (207, 75)]
theorem st_14 : (List.range 750).all (fun k => decide (I0 14 k = 0)) = true := by decide +kernel
theorem st_215 : (List.range 750).all (fun k => decide (I0 215 k = 0)) = true := by decide +kernel
theorem st_106 : (List.range 400).all (fun k => decide (I0 106 k = 0 ∧ I0 216 k = 0)) = true := by decide +kernel
theorem st_zr : zrL.all (fun e => (List.range e.2).all fun k => decide (I0 e.1 k = 0)) = true := by decide +kernel
theorem st_all : (zcL.all (fun e => decide (I0 e.1 e.2 = 0)) && (tabC.all (fun e => decide (I0 e.1 0 = nn e.2.1 ∧ I0 e.1 1 = nn e.2.2)) && ((List.range 41).all (fun k => decide (I0 206 k = nn (lostL.getD k 0))) && ((List.range 124).all (fun k => decide (I0 217 k = nn (wordL.getD k 0))) && decide (I0 207 34 = I0 93 1 ∧ I0 207 35 = I0 93 2 ∧ I0 122 2 = 1))))) = true := by decide +kernel
theorem st_z {a n k : Nat} (h : (a, n) ∈ zrL) (hk : k < n) : I0 a k = 0 := of_decide_eq_true (List.all_eq_true.mp (List.all_eq_true.mp st_zr (a, n) h) k (List.mem_range.mpr hk))
theorem st_c {a k : Nat} (h : (a, k) ∈ zcL) : I0 a k = 0 := of_decide_eq_true (List.all_eq_true.mp (and_mp st_all).1 (a, k) h)
theorem st_rl : Rl I0 I0 := by
  obtain ⟨-, s3⟩ := and_mp st_all
  obtain ⟨s4, s5⟩ := and_mp s3
  obtain ⟨s6, s7⟩ := and_mp s5
  obtain ⟨s8, s9⟩ := and_mp s7
  obtain ⟨t1, t2, t3⟩ := of_decide_eq_true s9
  refine ⟨⟨?_, ?_, ?_, ?_, ?_, ?_, ?_, ?_, ?_, ?_, ?_, ?_, ?_, ?_, ?_, ?_⟩, ?_, ?_, ?_, ?_⟩
  · have z2 : ∀ k, k < 9 → I0 2 k = 0 := fun k hk => st_z (by decide) hk
    have z8 : ∀ k, k < 95 → I0 208 k = 0 := fun k hk => st_z (by decide) hk
    have e : ∀ {x y : Int32}, x = 0 → y = 0 → x = y := fun h1 h2 => h1.trans h2.symm
    refine ⟨⟨e (z8 _ (by decide)) (z2 _ (by decide)), e (z8 _ (by decide)) (z2 _ (by decide)), e (z8 _ (by decide)) (z2 _ (by decide)), e (z8 _ (by decide)) (z2 _ (by decide)), e (z8 _ (by decide)) (z2 _ (by decide)), e (z8 _ (by decide)) (z2 _ (by decide)), e (z8 _ (by decide)) (z2 _ (by decide)), fun k hk => e (z8 _ (by omega)) (st_z (n := 10) (by decide) hk), fun k hk => e (z8 _ (by omega)) (st_z (n := 6) (by decide) hk), fun k hk => e (z8 _ (by omega)) (st_z (n := 18) (by decide) hk), fun k hk => e (z8 _ (by omega)) (st_z (n := 18) (by decide) hk), fun k hk => e (z8 _ (by omega)) (st_z (n := 18) (by decide) hk), fun k hk => e (z8 _ (by omega)) (st_z (n := 18) (by decide) hk)⟩, ⟨e (st_c (by decide)) (z2 _ (by decide)), e (st_c (by decide)) (z2 _ (by decide)), fun k hk => e (st_z (n := 6) (by decide) hk) (st_z (n := 6) (by decide) hk), fun k hk => e (st_z (n := 18) (by decide) hk) (st_z (n := 18) (by decide) hk), fun k hk => e (st_z (n := 18) (by decide) hk) (st_z (n := 18) (by decide) hk), fun k hk => e (st_z (n := 18) (by decide) hk) (st_z (n := 18) (by decide) hk)⟩, 0, 0, z2 7 (by decide), by decide, z2 8 (by decide), by decide, ⟨0, by decide, z2 4 (by decide)⟩, ⟨0, by decide, z2 6 (by decide)⟩, fun a h => absurd h (by omega), fun a h => absurd h (by omega), fun a h => absurd h (by omega), fun a h => Or.inl (st_z (n := 18) (by decide) h), fun a h => Or.inl (st_z (n := 18) (by decide) h), fun a h => ⟨0, by decide, st_z (n := 6) (by decide) h⟩⟩
  · exact fun k hk => (of_decide_eq_true (List.all_eq_true.mp st_215 k (List.mem_range.mpr hk))).trans (of_decide_eq_true (List.all_eq_true.mp st_14 k (List.mem_range.mpr hk))).symm
  · exact ⟨0, by decide, st_c (by decide), st_c (by decide), ⟨0, by decide, st_c (by decide)⟩, fun i h => absurd h (by omega)⟩
  · exact ⟨0, by decide, st_c (by decide), st_c (by decide), fun i h => absurd h (by omega)⟩
  · exact ⟨0, by decide, st_c (by decide), st_c (by decide), 0, 0, st_z (n := 9) (by decide) (by decide), by decide, st_z (n := 9) (by decide) (by decide), by decide, fun i h => absurd h (by omega)⟩
  · exact ⟨0, by decide, st_c (by decide), st_c (by decide), fun _ => 0, fun _ => 0, fun i h => absurd h (by omega), fun s hs => ⟨0, by decide, st_z (n := 10) (by decide) hs, fun b _ => by
      rw [Nat.zero_testBit]
      exact ⟨fun h => absurd h (by decide), fun ⟨i, h, _⟩ => absurd h (by omega)⟩⟩⟩
  · exact ⟨0, by decide, st_c (by decide), st_c (by decide), fun i h => absurd h (by omega)⟩
  · exact ⟨0, by decide, st_c (by decide), st_c (by decide), fun _ => 0, fun _ => 0, fun _ => 0, fun i h => absurd h (by omega), fun s hs => ⟨0, by decide, st_z (n := 10) (by decide) hs, fun b _ => by
      rw [Nat.zero_testBit]
      exact ⟨fun h => absurd h (by decide), fun ⟨i, h, _⟩ => absurd h (by omega)⟩⟩, fun s hs => ⟨0, by decide, st_z (n := 10) (by decide) hs, fun b _ => by
      rw [Nat.zero_testBit]
      exact ⟨fun h => absurd h (by decide), fun ⟨i, h, _⟩ => absurd h (by omega)⟩⟩⟩
  · exact ⟨0, by decide, st_c (by decide), st_c (by decide), fun i h => absurd h (by omega)⟩
  · exact ⟨0, by decide, st_c (by decide), st_c (by decide), fun i h => absurd h (by omega)⟩
  · exact ⟨0, by decide, st_c (by decide), st_z (n := 2) (by decide) (by decide), fun i h => absurd h (by omega)⟩
  · exact ⟨0, by decide, st_c (by decide), st_z (n := 2) (by decide) (by decide), fun i h => absurd h (by omega)⟩
  · exact ⟨0, by decide, st_c (by decide), st_c (by decide), fun i h => absurd h (by omega)⟩
  · exact ⟨0, by decide, st_c (by decide), st_c (by decide), fun i h => absurd h (by omega)⟩
  · exact ⟨0, by decide, st_c (by decide), st_c (by decide), fun i h => absurd h (by omega)⟩
  · exact ⟨0, by decide, st_c (by decide), st_c (by decide), fun i h => absurd h (by omega), fun k hk => st_z (n := 6) (by decide) hk⟩
  · exact ⟨⟨0, by decide, st_c (by decide), st_c (by decide)⟩, fun k hk => ⟨0, by decide, (of_decide_eq_true (List.all_eq_true.mp st_106 k (List.mem_range.mpr hk))).1, (of_decide_eq_true (List.all_eq_true.mp st_106 k (List.mem_range.mpr hk))).2⟩, t1, t2⟩
  · exact pst_0 (n := 0) (by decide) (st_c (by decide)) (st_c (by decide)) (st_c (by decide))
  · exact ⟨(st_c (a := 207) (k := 75) (by decide)).trans (st_c (a := 0) (k := 2) (by decide)).symm, Or.inl (st_c (by decide))⟩
  · exact ⟨fun e he => of_decide_eq_true (List.all_eq_true.mp s4 e he), st_c (by decide), t3, fun k hk => of_decide_eq_true (List.all_eq_true.mp s6 k (List.mem_range.mpr hk)), fun k hk => of_decide_eq_true (List.all_eq_true.mp s8 k (List.mem_range.mpr hk)), st_c (by decide)⟩
end ST91
