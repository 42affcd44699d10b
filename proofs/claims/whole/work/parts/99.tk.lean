/-! text: a line of the diary -/
section TT99
def DDi (np na n : Nat) (w : Nat → Int32) (k : Nat) (I J : MI) : Prop := n ≤ 16 ∧ I 102 3 = nn n ∧ (∀ i, i < n → J 227 (80 + (5 * i)) = I 103 (5 * i) ∧ J 227 (80 + (5 * i + 1)) = I 103 (5 * i + 1) ∧ J 227 (80 + (5 * i + 3)) = I 103 (5 * i + 3) ∧ J 227 (80 + (5 * i + 4)) = I 103 (5 * i + 4) ∧ rDia np na (I 103 (5 * i + 2)) (J 227 (80 + (5 * i + 2))) (I 103 (5 * i + 3)) (I 103 (5 * i + 4))) ∧ ∀ j, j < k → J 227 (80 + (5 * n + j)) = w j
theorem stab_DDi {np na n : Nat} {w : Nat → Int32} {k : Nat} : stab (DDi np na n w k) := by
  intro I J I1 J1 h1 h2 h3 h
  unfold DDi at h ⊢
  rw [h1 102 (by omega) (by omega), h1 103 (by omega) (by omega), h2 227 (by omega) (by omega)]
  exact h
theorem lt_cnt {m : Nat} {s : Int32} (hm : m ≤ 100) (h1 : ¬ s < 0) (h2 : ¬ nn m - 1 < s) : ∃ a, a < m ∧ s = nn a := by
  cases m with
  | zero =>
    exfalso
    apply h2
    have e : nn 0 - 1 = -1 := by decide
    rw [e, Int32.lt_iff_toInt_lt]
    rw [Int32.lt_iff_toInt_lt] at h1
    have e0 : (0 : Int32).toInt = 0 := rfl
    have e1 : (-1 : Int32).toInt = -1 := by decide
    omega
  | succ m =>
    have e : nn (m + 1) - 1 = nn m := by
      rw [show (1 : Int32) = nn 1 from rfl, nn_sub (by omega), Nat.add_sub_cancel]
    rw [e] at h2
    obtain ⟨a, ha, ea⟩ := of_le (n := m) (by omega) h1 h2
    exact ⟨a, by omega, ea⟩
section
variable {X : CX} {c n np na : Nat} {I J : MI} {w : Nat → Int32} {k : Nat}
theorem di_sr (h : LK X (DDi np na n w k) c I J) (hk : k < 5) (s : Int32) : LK X (DDi np na n (upd w k s) (k + 1)) c I (bup J 227 (upd (J 227) (80 + (5 * n + k)) s)) := by
  refine lk_J h (by simp [kpJ]) (by decide) ?_
  obtain ⟨a1, a2, a3, a4⟩ := h.2.2.2
  refine ⟨a1, a2, fun i hi => ?_, fun j hj => ?_⟩
  · rw [bup_eq, upd_ne _ _ (by omega), upd_ne _ _ (by omega), upd_ne _ _ (by omega), upd_ne _ _ (by omega), upd_ne _ _ (by omega)]
    exact a3 i hi
  · rw [bup_eq]
    by_cases e : j = k
    · rw [e, upd_eq, upd_eq]
    · rw [upd_ne _ _ (by omega), upd_ne _ _ e]
      exact a4 j (by omega)
theorem wr_di (hn : n < 16) (hk : k < 5) {x : Int32} (hx : x = nn (80 + (5 * n + k))) (s : Int32) (f : Int32 → M Int32) : bn (sr 160 227 x s) (fun _ => bn (ld 160 227 x) f) J = f s (bup J 227 (upd (J 227) (80 + (5 * n + k)) s)) := by
  subst hx
  have i1 : inR (nn (80 + (5 * n + k))) 160 = true := inR_nn (by omega) (by omega)
  rw [bn_sr _ _ i1, bn_ld _ _ i1, nn_nat (by omega), bup_eq, upd_eq]
def sDi (np na : Nat) (X : CX) (n c : Nat) (I J : MI) : Prop := LK X (DDi np na n (fun _ => 0) 0) c I J
def wDi (X : CX) (c : Nat) : Prop := KD X c = 2 ∧ VL X c = 20
def diK (n : Nat) : Int32 → M (Int32 ⊕ (Int32 ⊕ Int32)) := fun v2 => if v2 = -1 then rt (.inr (.inr (-1))) else rt (.inl (nn n + 1))
theorem di_no (hX : Cxt X) {D : MI → MI → Prop} (h : LK X D c I J) (hw : ¬ wDi X c) (y : Int32) : B_R_readDiary_2 y J = some (.inr (.inl y), J) ∧ ∃ I1 J1, F_Reader_diaryLine I = some (0, I1) ∧ F_R_errs 1 J = some (-1, J1) ∧ ER X I1 J1 := by
  refine ⟨?_, ?_⟩
  · unfold B_R_readDiary_2
    have e := word_R h 20
    rw [if_neg (show ¬ (KD X c = 2 ∧ VL X c = 20) from hw)] at e
    rw [bn_of e, if_pos rfl]
    rfl
  · obtain ⟨I1, J1, f1, f2, f3⟩ := open_no hX h 20 102 hw
    refine ⟨I1, J1, ?_, f2, f3⟩
    unfold F_Reader_diaryLine
    rw [bn_of f1, if_pos rfl]
    rfl
theorem di_end (hX : Cxt X) (h0 : X.2.2.2.1 102 0 = nn 5) (h1 : X.2.2.2.1 102 1 = nn 16) {c0 : Nat} (hc : c0 ≤ c) (hL : LK X (DDi np na n w 5) c I J) (hn : n < 16) {a b kc who v : Int32} (e0 : w 0 = a) (e1 : w 1 = b) (e3 : w 3 = who) (e4 : w 4 = v) (hi : I 93 11 = v) (hd : rDia np na kc (w 2) who v) : Ok2 (K_Reader_diaryLine_189 a b kc who) (bn (bn (F_R_readMark 59) fun v11 => rt v11) (diK n)) I J (bR X (sDi np na X) n c0) := by
  unfold K_Reader_diaryLine_189
  rw [o2L e_rd, hi, bn_bn]
  refine o2_bn (p_mark hX stab_DDi hL 59 rfl) fun r m I11 J11 hP => ?_
  rcases hP with ⟨rfl, rfl, hE⟩ | ⟨rfl, rfl, hL11⟩
  · rw [if_pos rfl, bn_rt, gdZ0, bn_rt]
    exact ⟨0, _, _, _, rfl, rfl, Or.inl ⟨rfl, rfl, hE⟩⟩
  have w0 : I11 102 0 = nn 5 := by rw [hL11.2.1.2.2.2 102 0 rfl]; exact h0
  have w1 : I11 102 1 = nn 16 := by rw [hL11.2.1.2.2.2 102 1 rfl]; exact h1
  obtain ⟨a1, a2, a3, a4⟩ := hL11.2.2.2
  have put := put_ok (t := 102) (w := 5) (n := n) (r := 16) (a := a) (b := b) (c := kc) (d := who) (e := v) w0 a2 w1 hn rfl (by decide) (by decide) (by decide)
  unfold diK
  rw [if_neg one_ne, o2L put, bn_rt, if_neg zm_ne, gdZ1, bn_rt, nn_s, o2_rt]
  refine Or.inr ⟨rfl, rfl, c + 1, by omega, hL11.1, ⟨?_, ?_, ?_, ?_⟩, hL11.2.2.1, ⟨by omega, by rw [bup_eq, upd_eq], fun i hi => ?_, fun j hj => absurd hj (by omega)⟩⟩
  · rw [bup_ne _ _ (by decide), bup_ne _ _ (by decide)]; exact hL11.2.1.1
  · rw [bup_ne _ _ (by decide), bup_ne _ _ (by decide)]; exact hL11.2.1.2.1
  · rw [bup_ne _ _ (by decide), bup_ne _ _ (by decide)]; exact hL11.2.1.2.2.1
  · have f1 := fi_row (a := 103) (g := lnF (I11 103) 5 n a b kc who v) hL11.2.1.2.2.2 (fun k => by simp [kpI])
    have f2 := fi_set (a := 102) (k := 3) (x := nn (n + 1)) f1 rfl
    rw [bup_ne (b := 102) _ _ (by decide)] at f2
    exact f2
  · have z103 : bup (bup I11 (102 + 1) (lnF (I11 (102 + 1)) 5 n a b kc who v)) 102 (upd (I11 102) 3 (nn (n + 1))) 103 = upd (upd (upd (upd (upd (I11 103) (5 * n) a) (5 * n + 1) b) (5 * n + 2) kc) (5 * n + 3) who) (5 * n + 4) v := by
      rw [bup_ne _ _ (by decide), bup_eq]
      unfold lnF; simp [Nat.mul_comm]
    rw [z103]
    by_cases e : i = n
    · subst e
      have q0 : J11 227 (80 + 5 * i) = w 0 := a4 0 (by decide)
      rw [q0, a4 1 (by decide), a4 2 (by decide), a4 3 (by decide), a4 4 (by decide), e0, e1, e3, e4]
      have v0 : upd (upd (upd (upd (upd (I11 103) (5 * i) a) (5 * i + 1) b) (5 * i + 2) kc) (5 * i + 3) who) (5 * i + 4) v (5 * i) = a := by
        rw [upd_ne _ _ (by omega), upd_ne _ _ (by omega), upd_ne _ _ (by omega), upd_ne _ _ (by omega), upd_eq]
      have v1 : upd (upd (upd (upd (upd (I11 103) (5 * i) a) (5 * i + 1) b) (5 * i + 2) kc) (5 * i + 3) who) (5 * i + 4) v (5 * i + 1) = b := by
        rw [upd_ne _ _ (by omega), upd_ne _ _ (by omega), upd_ne _ _ (by omega), upd_eq]
      have v2 : upd (upd (upd (upd (upd (I11 103) (5 * i) a) (5 * i + 1) b) (5 * i + 2) kc) (5 * i + 3) who) (5 * i + 4) v (5 * i + 2) = kc := by
        rw [upd_ne _ _ (by omega), upd_ne _ _ (by omega), upd_eq]
      have v3 : upd (upd (upd (upd (upd (I11 103) (5 * i) a) (5 * i + 1) b) (5 * i + 2) kc) (5 * i + 3) who) (5 * i + 4) v (5 * i + 3) = who := by
        rw [upd_ne _ _ (by omega), upd_eq]
      have v4 : upd (upd (upd (upd (upd (I11 103) (5 * i) a) (5 * i + 1) b) (5 * i + 2) kc) (5 * i + 3) who) (5 * i + 4) v (5 * i + 4) = v := upd_eq _ _ _
      rw [v0, v1, v2, v3, v4]
      exact ⟨rfl, rfl, rfl, rfl, hd⟩
    · have hn2 : ∀ q, q < 5 → upd (upd (upd (upd (upd (I11 103) (5 * n) a) (5 * n + 1) b) (5 * n + 2) kc) (5 * n + 3) who) (5 * n + 4) v (5 * i + q) = I11 103 (5 * i + q) := fun q hq => by
        rw [upd_ne _ _ (by omega), upd_ne _ _ (by omega), upd_ne _ _ (by omega), upd_ne _ _ (by omega), upd_ne _ _ (by omega)]
      have hn0 : upd (upd (upd (upd (upd (I11 103) (5 * n) a) (5 * n + 1) b) (5 * n + 2) kc) (5 * n + 3) who) (5 * n + 4) v (5 * i) = I11 103 (5 * i) := hn2 0 (by decide)
      rw [hn0, hn2 1 (by decide), hn2 2 (by decide), hn2 3 (by decide), hn2 4 (by decide)]
      exact a3 i (by omega)
/-- from the kind on: who, how much, the sign -/
def dmA (x1 x2 x3 v3 : Int32) : M Int32 :=
    (if x3 = (24 : Int32) then
      K_Reader_diaryLine_189 x1 x2 x3 v3
    else
      (if x3 = (23 : Int32) then
        (if x3 = (23 : Int32) then
          bn (F_Reader_stepNumber (1 : Int32) (999 : Int32)) fun v7 =>
          (if v7 = 0 then
            bn (gdZ (0 : Int32)) fun _ => rt (0 : Int32)
          else
            K_Reader_diaryLine_189 x1 x2 x3 v3)
        else
          bn (F_Reader_stepNumber (1 : Int32) (9 : Int32)) fun v6 =>
          (if v6 = 0 then
            bn (gdZ (0 : Int32)) fun _ => rt (0 : Int32)
          else
            K_Reader_diaryLine_189 x1 x2 x3 v3))
      else
        (if x3 = (23 : Int32) then
          bn (F_Reader_stepNumber (0 : Int32) (999 : Int32)) fun v5 =>
          (if v5 = 0 then
            bn (gdZ (0 : Int32)) fun _ => rt (0 : Int32)
          else
            K_Reader_diaryLine_189 x1 x2 x3 v3)
        else
          bn (F_Reader_stepNumber (0 : Int32) (9 : Int32)) fun v4 =>
          (if v4 = 0 then
            bn (gdZ (0 : Int32)) fun _ => rt (0 : Int32)
          else
            K_Reader_diaryLine_189 x1 x2 x3 v3))))
theorem k117 (x1 x2 x3 : Int32) : K_Reader_diaryLine_117 x1 x2 x3 = bn (F_Reader_step) fun _ =>
  bn (F_Reader_countOf x3) fun v1 =>
  bn (F_Reader_stepNumber (0 : Int32) (v1 - (1 : Int32))) fun v2 =>
  (if v2 = 0 then
    bn (gdZ (0 : Int32)) fun _ => rt (0 : Int32)
  else
    bn (rd 93 11) fun v3 =>
    bn (wr 93 11 (0 : Int32)) fun _ => dmA x1 x2 x3 v3) := rfl
def dmR (x4 : Int32) (kr : Int32) : M Int32 :=
          bn (F_R_readDeedMore kr) fun v9 =>
          bn (sr 160 227 x4 v9) fun _ =>
          bn (ld 160 227 x4) fun v10 =>
          (if v10 = (-1 : Int32) then
            rt (-1 : Int32)
          else
            bn (F_R_readMark (59 : Int32)) fun v11 =>
            rt v11)
theorem di_bad {c0 : Nat} (hn : n < 16) (hk : k < 5) {x : Int32} (hx : x = nn (80 + (5 * n + k))) {f : Int32 → M Int32} (hf : f (-1) = rt (-1)) (hE : ER X I J) : Ok2 (bn (gdZ (0 : Int32)) fun _ => rt (0 : Int32)) (bn (bn (sr 160 227 x (-1)) fun _ => bn (ld 160 227 x) f) (diK n)) I J (bR X (sDi np na X) n c0) := by
  refine o2_eq rfl (bn_cg (wr_di hn hk hx (-1) f)) ?_
  unfold diK
  rw [hf, bn_rt, if_pos rfl, gdZ0, bn_rt, o2_rt]
  exact Or.inl ⟨rfl, rfl, er_set hE (by simp [kpJ]) (fun z => absurd z (by decide))⟩
theorem di_more (hX : Cxt X) (h0 : X.2.2.2.1 102 0 = nn 5) (h1 : X.2.2.2.1 102 1 = nn 16) {c0 : Nat} (hc : c0 ≤ c) (hL : LK X (DDi np na n w 4) c I J) (hn : n < 16) {a b kc kr who : Int32} (e0 : w 0 = a) (e1 : w 1 = b) (e2 : w 2 = kr) (e3 : w 3 = who) (hi : I 93 11 = 0) (hk : (kc = 22 ∧ kr = 0 ∧ ∃ a, a < na ∧ who = nn a) ∨ (kc = 23 ∧ kr = 1 ∧ ∃ p, p < np ∧ who = nn p) ∨ (kc = 24 ∧ kr = 2 ∧ ∃ a, a < na ∧ who = nn a) ∨ (kc = 9 ∧ kr = 3 ∧ ∃ s, s < 10 ∧ who = nn s)) : Ok2 (dmA a b kc who) (bn (dmR (nn (80 + (5 * n + 4))) kr) (diK n)) I J (bR X (sDi np na X) n c0) := by
  unfold dmA dmR F_R_readDeedMore
  by_cases h24 : kc = 24
  · have hk2 : kr = 2 ∧ ∃ a, a < na ∧ who = nn a := by
      rcases hk with ⟨z, _⟩ | ⟨z, _⟩ | ⟨_, z⟩ | ⟨z, _⟩
      · rw [h24] at z; exact absurd z (by decide)
      · rw [h24] at z; exact absurd z (by decide)
      · exact z
      · rw [h24] at z; exact absurd z (by decide)
    rw [if_pos h24, if_pos hk2.1, bn_rt]
    refine o2_eq rfl (bn_cg (wr_di hn (show 4 < 5 by decide) rfl 0 _)) ?_
    rw [if_neg zm_ne]
    have hL2 := di_sr hL (by decide) 0
    refine di_end hX h0 h1 hc hL2 hn (v := 0) ?_ ?_ ?_ (upd_eq _ _ _) hi ?_
    · rw [upd_ne _ _ (by decide)]; exact e0
    · rw [upd_ne _ _ (by decide)]; exact e1
    · rw [upd_ne _ _ (by decide)]; exact e3
    · rw [upd_ne _ _ (by decide), e2]
      exact Or.inr (Or.inr (Or.inl ⟨h24, hk2⟩))
  · have kr2 : ¬ kr = 2 := by
      rcases hk with ⟨_, z, _⟩ | ⟨_, z, _⟩ | ⟨z, _⟩ | ⟨_, z, _⟩
      · rw [z]; decide
      · rw [z]; decide
      · exact absurd z h24
      · rw [z]; decide
    -- both read a number between the same bounds
    have num : ∀ lo hi' : Int32, (∀ v, ¬ v < lo → ¬ hi' < v → rDia np na kc kr who v) → Ok2 (bn (F_Reader_stepNumber lo hi') fun v4 => (if v4 = 0 then bn (gdZ (0 : Int32)) fun _ => rt (0 : Int32) else K_Reader_diaryLine_189 a b kc who)) (bn (bn (F_R_readNumber lo hi') fun v9 => bn (sr 160 227 (nn (80 + (5 * n + 4))) v9) fun _ => bn (ld 160 227 (nn (80 + (5 * n + 4)))) fun v10 => (if v10 = (-1 : Int32) then rt (-1 : Int32) else bn (F_R_readMark (59 : Int32)) fun v11 => rt v11)) (diK n)) I J (bR X (sDi np na X) n c0) := by
      intro lo hi' hv
      rw [bn_bn]
      refine o2_bn (p_num hX stab_DDi hL lo hi') fun r s I3 J3 hP => ?_
      rcases hP with ⟨rfl, rfl, hE⟩ | ⟨rfl, k3, es, b1, b2, i11, hL3⟩
      · rw [if_pos rfl]
        exact di_bad hn (show 4 < 5 by decide) rfl (by rw [if_pos rfl]) hE
      have sm : ¬ s = -1 := by rw [es]; exact num_ne hX k3
      rw [if_neg one_ne]
      refine o2_eq rfl (bn_cg (wr_di hn (show 4 < 5 by decide) rfl s _)) ?_
      rw [if_neg sm]
      have hL2 := di_sr hL3 (by decide) s
      refine di_end hX h0 h1 (by omega) hL2 hn (v := s) ?_ ?_ ?_ (upd_eq _ _ _) i11 ?_
      · rw [upd_ne _ _ (by decide)]; exact e0
      · rw [upd_ne _ _ (by decide)]; exact e1
      · rw [upd_ne _ _ (by decide)]; exact e3
      · rw [upd_ne _ _ (by decide), e2]
        exact hv s b1 b2
    rw [if_neg h24, if_neg kr2]
    by_cases h23 : kc = 23
    · have hk2 : kr = 1 ∧ ∃ p, p < np ∧ who = nn p := by
        rcases hk with ⟨z, _⟩ | ⟨_, z⟩ | ⟨z, _⟩ | ⟨z, _⟩
        · rw [h23] at z; exact absurd z (by decide)
        · exact z
        · exact absurd z h24
        · rw [h23] at z; exact absurd z (by decide)
      have rr : (bn (F_R_readNumber 1 999) fun v2 => rt v2) = F_R_readNumber 1 999 := by
        funext K
        unfold bn
        cases F_R_readNumber 1 999 K <;> rfl
      rw [if_pos h23, if_pos h23, if_pos hk2.1, rr]
      refine num 1 999 fun v b1 b2 => Or.inr (Or.inl ⟨h23, hk2.1, hk2.2, ?_⟩)
      obtain ⟨m, m0, m1, m2⟩ := (rng (v := v) 1 999 (by decide) (by decide)).resolve_right (fun z => z.elim b1 b2)
      exact ⟨m, by omega, m2⟩
    · have kr1 : ¬ kr = 1 := by
        rcases hk with ⟨_, z, _⟩ | ⟨z, _⟩ | ⟨z, _⟩ | ⟨_, z, _⟩
        · rw [z]; decide
        · exact absurd z h23
        · exact absurd z h24
        · rw [z]; decide
      have rr : (bn (F_R_readNumber 0 9) fun v2 => rt v2) = F_R_readNumber 0 9 := by
        funext K
        unfold bn
        cases F_R_readNumber 0 9 K <;> rfl
      rw [if_neg h23, if_neg h23, if_neg kr1, rr]
      refine num 0 9 fun v b1 b2 => ?_
      obtain ⟨m, m0, m1, m2⟩ := (rng (v := v) 0 9 (by decide) (by decide)).resolve_right (fun z => z.elim b1 b2)
      rcases hk with ⟨z1, z2, z3⟩ | ⟨z, _⟩ | ⟨z, _⟩ | ⟨z1, z2, z3⟩
      · exact Or.inl ⟨z1, z2, z3, m, by omega, m2⟩
      · exact absurd z h23
      · exact absurd z h24
      · exact Or.inr (Or.inr (Or.inr ⟨z1, z2, z3, m, by omega, m2⟩))
end
end TT99
