/-! a stock becomes another, put together -/
section SC47
theorem sg_tb {r0 r1 o n w N : Nat} {I I1 : MI} {Q : Unit → MI → Prop} (hr : r0 = 1 ∧ r1 = 47 ∨ r0 = 47 ∧ r1 = 1) (h : SG r0 r1 o I I1) (ho : o ∈ tOff) (ho2 : 16 ≤ o ∧ o ≤ 44) (hp : o = 16 ∨ 19 ≤ o) (hodd : ∀ t, t ∈ tOff → t + 2 ≤ o + 2 → t + 2 ≤ o ∨ t = o) (h3 : I (r1 + o) 3 = nn n) (hn : n ≤ N) (h0 : I (r0 + o) 0 = nn w) (hs1 : siz shT (r1 + o + 1) = N * w) (hs0 : siz shT (r0 + o + 1) = N * w) (hb : N * w < 2 ^ 31 ∧ N < 2 ^ 31 ∧ w < 2 ^ 31) (k : ∀ I2, SG r0 r1 (o + 2) I I2 → Q () I2) : Ok (F_Table_become (r0 + o) (r1 + o)) I1 Q := by
  have hm : n * w ≤ N * w := Nat.mul_le_mul_right w hn
  have q := sg_tab (f := fun _ => rt ()) (Q := Q) hr h ho ho2 hp hodd h3 h0 (by rw [hs1, hs0]) (by rw [hs0]; exact hm) (by omega) (by omega) hb.2.2 (fun I2 q => ok_rt.mpr (k I2 q))
  rw [ok_bn] at q
  exact ok_mono q fun x I1 q2 => by rw [ok_rt] at q2; exact q2
theorem wid {I : MI} {r0 r1 o w N : Nat} (hr : r0 = 1 ∧ r1 = 47 ∨ r0 = 47 ∧ r1 = 1) (hc : ∀ e, e ∈ tabC → I e.1 0 = nn e.2.1 ∧ I e.1 1 = nn e.2.2) (h1 : (1 + o, w, N) ∈ tabC) (h2 : (47 + o, w, N) ∈ tabC) : I (r0 + o) 0 = nn w := by
  rcases hr with ⟨rfl, -⟩ | ⟨rfl, -⟩
  · exact (hc _ h1).1
  · exact (hc _ h2).1
theorem szs {r0 r1 o N : Nat} (hr : r0 = 1 ∧ r1 = 47 ∨ r0 = 47 ∧ r1 = 1) (h1 : siz shT (1 + o + 1) = N) (h2 : siz shT (47 + o + 1) = N) : siz shT (r1 + o + 1) = N ∧ siz shT (r0 + o + 1) = N := by
  rcases hr with ⟨rfl, rfl⟩ | ⟨rfl, rfl⟩
  · exact ⟨h2, h1⟩
  · exact ⟨h1, h2⟩
theorem stock_ok {r0 r1 : Nat} {I J : MI} (hr : r0 = 1 ∧ r1 = 47 ∨ r0 = 47 ∧ r1 = 1) (hc : ∀ e, e ∈ tabC → I e.1 0 = nn e.2.1 ∧ I e.1 1 = nn e.2.2) (hb : bStk I r1 J) : ∃ I1, F_Stock_become r0 r1 I = some ((), I1) ∧ SG r0 r1 46 I I1 := by
  have hO : Ok (F_Stock_become r0 r1) I fun _ I1 => SG r0 r1 46 I I1 := by
    obtain ⟨-, -, ⟨n16, l16, c16, -⟩, ⟨n20, l20, c20, -⟩, ⟨n22, l22, c22, -⟩, ⟨n24, l24, c24, -⟩, ⟨n26, l26, c26, -⟩, ⟨n28, l28, c28, -⟩, ⟨n30, l30, c30, -⟩, ⟨n32, l32, c32, -⟩, ⟨n34, l34, c34, -⟩, ⟨n36, l36, c36, -⟩, ⟨n38, l38, c38, -⟩, ⟨n40, l40, c40, -⟩, ⟨n42, l42, c42, -⟩, n44, l44, c44, -⟩ := hb
    have z16 := szs (r0 := r0) (r1 := r1) (o := 16) (N := 16 * 4) hr (by decide +kernel) (by decide +kernel)
    have w16 := wid (o := 16) (w := 4) (N := 16) hr hc (by decide) (by decide)
    have z20 := szs (r0 := r0) (r1 := r1) (o := 20) (N := 16 * 4) hr (by decide +kernel) (by decide +kernel)
    have w20 := wid (o := 20) (w := 4) (N := 16) hr hc (by decide) (by decide)
    have z22 := szs (r0 := r0) (r1 := r1) (o := 22) (N := 16 * 5) hr (by decide +kernel) (by decide +kernel)
    have w22 := wid (o := 22) (w := 5) (N := 16) hr hc (by decide) (by decide)
    have z24 := szs (r0 := r0) (r1 := r1) (o := 24) (N := 16 * 2) hr (by decide +kernel) (by decide +kernel)
    have w24 := wid (o := 24) (w := 2) (N := 16) hr hc (by decide) (by decide)
    have z26 := szs (r0 := r0) (r1 := r1) (o := 26) (N := 10 * 2) hr (by decide +kernel) (by decide +kernel)
    have w26 := wid (o := 26) (w := 2) (N := 10) hr hc (by decide) (by decide)
    have z28 := szs (r0 := r0) (r1 := r1) (o := 28) (N := 12 * 3) hr (by decide +kernel) (by decide +kernel)
    have w28 := wid (o := 28) (w := 3) (N := 12) hr hc (by decide) (by decide)
    have z30 := szs (r0 := r0) (r1 := r1) (o := 30) (N := 10 * 3) hr (by decide +kernel) (by decide +kernel)
    have w30 := wid (o := 30) (w := 3) (N := 10) hr hc (by decide) (by decide)
    have z32 := szs (r0 := r0) (r1 := r1) (o := 32) (N := 6 * 1) hr (by decide +kernel) (by decide +kernel)
    have w32 := wid (o := 32) (w := 1) (N := 6) hr hc (by decide) (by decide)
    have z34 := szs (r0 := r0) (r1 := r1) (o := 34) (N := 12 * 1) hr (by decide +kernel) (by decide +kernel)
    have w34 := wid (o := 34) (w := 1) (N := 12) hr hc (by decide) (by decide)
    have z36 := szs (r0 := r0) (r1 := r1) (o := 36) (N := 12 * 1) hr (by decide +kernel) (by decide +kernel)
    have w36 := wid (o := 36) (w := 1) (N := 12) hr hc (by decide) (by decide)
    have z38 := szs (r0 := r0) (r1 := r1) (o := 38) (N := 8 * 1) hr (by decide +kernel) (by decide +kernel)
    have w38 := wid (o := 38) (w := 1) (N := 8) hr hc (by decide) (by decide)
    have z40 := szs (r0 := r0) (r1 := r1) (o := 40) (N := 8 * 2) hr (by decide +kernel) (by decide +kernel)
    have w40 := wid (o := 40) (w := 2) (N := 8) hr hc (by decide) (by decide)
    have z42 := szs (r0 := r0) (r1 := r1) (o := 42) (N := 10 * 1) hr (by decide +kernel) (by decide +kernel)
    have w42 := wid (o := 42) (w := 1) (N := 10) hr hc (by decide) (by decide)
    have z44 := szs (r0 := r0) (r1 := r1) (o := 44) (N := 8 * 3) hr (by decide +kernel) (by decide +kernel)
    have w44 := wid (o := 44) (w := 3) (N := 8) hr hc (by decide) (by decide)
    unfold F_Stock_become F_Book_become
    have hcp := cp_nn (na := 750) (nb := 750) (a := r1 + 13) (b := r0 + 13) (n := 750) (by decide) (by decide) (by decide) (bcS I (r0 + 1) (r1 + 1) 10)
    have hcp2 : cpM 750 750 (r1 + 12 + 1) 0 (r0 + 12 + 1) 0 (Int32.ofNat 750) (bcS I (r0 + 1) (r1 + 1) 10) = _ := hcp
    rw [ok_bn, ok_eq (become (r0 := r0 + 1) (r1 := r1 + 1) (by omega)), ok_bn, ok_bn, ok_eq hcp2, ok_rt, ok_bn]
    have s14 := sg_14 hr (sg_12 (r0 := r0) (r1 := r1) (I := I))
    generalize (bup (bcS I (r0 + 1) (r1 + 1) 10) (r0 + 13) fun k => if k < 750 then bcS I (r0 + 1) (r1 + 1) 10 (r1 + 13) k else bcS I (r0 + 1) (r1 + 1) 10 (r0 + 13) k) = I2 at *
    unfold F_Texts_become K_Texts_become_2
    rw [FU5]
    refine tx_on (by decide) ?_
    unfold F_Texts_take
    rw [ok_ite, if_pos rfl, ok_bn]
    unfold F_Law_become
    rw [ok_bn]
    refine sg_tb (o := 16) (n := n16) (w := 4) (N := 16) hr (sg_skip s14 (by decide) (by decide) (by decide) (by decide) (by decide)) (by decide) (by decide) (by decide) (by decide) c16 l16 w16 z16.1 z16.2 (by decide) fun I3 h18 => ?_
    show Ok (bn (rd (r1 + 15) 1) fun v => bn (wr (r0 + 15) 1 v) fun _ => bn (cpM 400 400 (r1 + 18) 0 (r0 + 18) 0 (nn 400)) fun _ => rt ()) I3 _
    rw [ok_bn, ok_rd, ok_bn, ok_wr, ok_bn, ok_eq (cp_nn (n := 400) (by decide) (by decide) (by decide) _), ok_rt, ok_bn, ok_rd, ok_rt]
    have s19 := sg_19 hr h18
    generalize (bup (bup I3 (r0 + 15) (upd (I3 (r0 + 15)) 1 (I3 (r1 + 15) 1))) (r0 + 18) fun k => if k < 400 then (bup I3 (r0 + 15) (upd (I3 (r0 + 15)) 1 (I3 (r1 + 15) 1))) (r1 + 18) k else (bup I3 (r0 + 15) (upd (I3 (r0 + 15)) 1 (I3 (r1 + 15) 1))) (r0 + 18) k) = I4 at *
    refine tx_on (by decide) ?_
    unfold F_Texts_take F_Texts_table
    rw [ok_ite, if_neg (by decide), if_pos (by decide), if_pos (by decide), ok_bn, ok_rt, ok_bn, ok_rt, ok_bn]
    refine sg_tb (o := 20) (n := n20) (w := 4) (N := 16) hr (sg_skip s19 (by decide) (by decide) (by decide) (by decide) (by decide)) (by decide) (by decide) (by decide) (by decide) c20 l20 w20 z20.1 z20.2 (by decide) fun I5 s22 => ?_
    rw [ok_bn, ok_rt, ok_bn, ok_rd, ok_rt]
    refine tx_on (by decide) ?_
    unfold F_Texts_take F_Texts_table
    rw [ok_ite, if_neg (by decide), if_neg (by decide), if_pos (by decide), if_neg (by decide), if_pos (by decide), ok_bn, ok_rt, ok_bn, ok_rt, ok_bn]
    refine sg_tb (o := 22) (n := n22) (w := 5) (N := 16) hr s22 (by decide) (by decide) (by decide) (by decide) c22 l22 w22 z22.1 z22.2 (by decide) fun I6 s24 => ?_
    rw [ok_bn, ok_rt, ok_bn, ok_rd, ok_rt]
    refine tx_on (by decide) ?_
    unfold F_Texts_take F_Texts_table
    rw [ok_ite, if_neg (by decide), if_neg (by decide), if_neg (by decide), if_neg (by decide), if_neg (by decide), ok_bn, ok_rt, ok_bn, ok_rt, ok_bn]
    refine sg_tb (o := 24) (n := n24) (w := 2) (N := 16) hr s24 (by decide) (by decide) (by decide) (by decide) c24 l24 w24 z24.1 z24.2 (by decide) fun I7 s26 => ?_
    rw [ok_bn, ok_rt, ok_bn, ok_rd, ok_rt]
    refine tx_end (by decide) ?_
    rw [ok_bn]
    refine sg_tb (o := 26) (n := n26) (w := 2) (N := 10) hr s26 (by decide) (by decide) (by decide) (by decide) c26 l26 w26 z26.1 z26.2 (by decide) fun I26 s28 => ?_
    rw [ok_bn]
    refine sg_tb (o := 28) (n := n28) (w := 3) (N := 12) hr s28 (by decide) (by decide) (by decide) (by decide) c28 l28 w28 z28.1 z28.2 (by decide) fun I28 s30 => ?_
    rw [ok_bn]
    refine sg_tb (o := 30) (n := n30) (w := 3) (N := 10) hr s30 (by decide) (by decide) (by decide) (by decide) c30 l30 w30 z30.1 z30.2 (by decide) fun I30 s32 => ?_
    rw [ok_bn]
    refine sg_tb (o := 32) (n := n32) (w := 1) (N := 6) hr s32 (by decide) (by decide) (by decide) (by decide) c32 l32 w32 z32.1 z32.2 (by decide) fun I32 s34 => ?_
    rw [ok_bn]
    refine sg_tb (o := 34) (n := n34) (w := 1) (N := 12) hr s34 (by decide) (by decide) (by decide) (by decide) c34 l34 w34 z34.1 z34.2 (by decide) fun I34 s36 => ?_
    rw [ok_bn]
    refine sg_tb (o := 36) (n := n36) (w := 1) (N := 12) hr s36 (by decide) (by decide) (by decide) (by decide) c36 l36 w36 z36.1 z36.2 (by decide) fun I36 s38 => ?_
    rw [ok_bn]
    refine sg_tb (o := 38) (n := n38) (w := 1) (N := 8) hr s38 (by decide) (by decide) (by decide) (by decide) c38 l38 w38 z38.1 z38.2 (by decide) fun I38 s40 => ?_
    rw [ok_bn]
    refine sg_tb (o := 40) (n := n40) (w := 2) (N := 8) hr s40 (by decide) (by decide) (by decide) (by decide) c40 l40 w40 z40.1 z40.2 (by decide) fun I40 s42 => ?_
    rw [ok_bn]
    refine sg_tb (o := 42) (n := n42) (w := 1) (N := 10) hr s42 (by decide) (by decide) (by decide) (by decide) c42 l42 w42 z42.1 z42.2 (by decide) fun I42 s44 => ?_
    rw [ok_bn]
    refine sg_tb (o := 44) (n := n44) (w := 3) (N := 8) hr s44 (by decide) (by decide) (by decide) (by decide) c44 l44 w44 z44.1 z44.2 (by decide) fun I44 s46 => ?_
    rw [ok_rt]
    exact s46
  obtain ⟨_, I1, h1, h2⟩ := hO
  exact ⟨I1, h1, h2⟩
end SC47
