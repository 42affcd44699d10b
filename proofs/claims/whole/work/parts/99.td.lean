/-! text: sums side by side -/
section TM99
theorem cod_4 : codOf 4 0 = -3 := by decide
theorem cod_5 : codOf 5 0 = -4 := by decide
theorem cod_9 : codOf 9 0 = -8 := by decide
theorem cod_10 : codOf 10 0 = -9 := by decide
theorem cod_11 : codOf 11 0 = -10 := by decide
theorem zm_ne : ¬ (0 : Int32) = -1 := by decide
theorem lp_e {σ β : Type} (body : σ → M (σ ⊕ β)) (n : Nat) (x : σ) : lp body (n + 1) x = bn (body x) (Sum.elim (lp body n) rt) := by
  rw [lp_s]
  congr 1
  funext r
  cases r <;> rfl
theorem lp_bn {σ β γ : Type} (body : σ → M (σ ⊕ β)) (n : Nat) (x : σ) (f : β → M γ) : bn (lp body (n + 1) x) f = bn (body x) (Sum.elim (fun y => bn (lp body n y) f) f) := by
  rw [lp_s, bn_bn]
  congr 1
  funext r
  cases r <;> rfl
def SA (N : Nat) (p q : Int32) : M Int32 := bn (lp B_Reader_sum_13 N (p, q)) (Sum.elim K_Reader_sum_159 rt)
def SAk (N : Nat) : (Int32 × Int32) ⊕ (Int32 ⊕ Int32) → M Int32 := Sum.elim (fun y => bn (lp B_Reader_sum_13 N y) (Sum.elim K_Reader_sum_159 rt)) (Sum.elim K_Reader_sum_159 rt)
theorem SA_eq (p q : Int32) : K_Reader_sum_13 p q = SA FU p q := by
  unfold K_Reader_sum_13 SA
  congr 1
  funext e
  cases e <;> rfl
theorem SA_s (N : Nat) (p q : Int32) : SA (N + 1) p q = bn (B_Reader_sum_13 (p, q)) (SAk N) := lp_bn _ _ _ _
def RC (o : Int32) (Np Ns : Nat) : M Int32 := bn (lp B_R_readProduct_10 Np ()) fun v => if v = -1 then rt (-1) else if o = 0 then lp B_R_readSum_10 Ns () else bn (F_R_emits o 0) fun _ => lp B_R_readSum_10 Ns ()
def pc (o : Int32) : Int32 := if o = 0 then 0 else codOf o 0
def SP (X : CX) (es : CL) (G : MI × MI) (c0 : Nat) (r s : Int32) (I J : MI) : Prop := eR X r s I J ∨ (r = 1 ∧ s = 0 ∧ ∃ c nw, c0 < c ∧ nw.length + c0 ≤ c ∧ LK X (DE (es ++ nw) G) c I J ∧ ∀ st : List Nat, st.length ≤ 37 → ∃ z, z ≠ 1 ∧ tyL nw st = some (z :: st))
def tyP (o : Int32) (nw : CL) : Prop := ∀ st : List Nat, st.length ≤ 37 → if o = 0 then ∃ z, z ≠ 1 ∧ tyL nw st = some (z :: st) else ∃ z y, z ≠ 1 ∧ y ≠ 1 ∧ tyL nw st = some (z :: y :: st)
theorem prod_RC (o : Int32) (ho : ¬ o = 0) (Ns : Nat) : (bn F_R_readProduct fun v => if v = -1 then rt (-1) else bn (F_R_emits o 0) fun _ => lp B_R_readSum_10 Ns ()) = bn F_R_readUnit fun v => if v = -1 then rt (-1) else RC o FU Ns := by
  unfold F_R_readProduct K_R_readProduct_10 RC
  rw [bn_bn]
  congr 1
  funext v
  rw [bn_ite]
  by_cases hv : v = -1
  · rw [if_pos hv, if_pos hv, bn_rt, if_pos rfl]
  · rw [if_neg hv, if_neg hv]
    congr 1
    funext w
    rw [if_neg ho]
section
variable {X : CX} {es : CL} {G : MI × MI} {c : Nat} {I J : MI}
theorem no_sg {D : MI → MI → Prop} (h : LK X D c I J) {x : Int32} (hx : mkC x = true) (hs : ¬ sg X c x) : F_R_isSign x J = some (0, J) := by
  rw [sign_R h x hx, if_neg (show ¬ (KD X c = 4 ∧ VL X c = x) from hs)]
theorem yes_sg {D : MI → MI → Prop} (h : LK X D c I J) {x : Int32} (hx : mkC x = true) (hs : sg X c x) : F_R_isSign x J = some (1, J) := by
  rw [sign_R h x hx, if_pos (show KD X c = 4 ∧ VL X c = x from hs)]
theorem prod_out {D : MI → MI → Prop} (h : LK X D c I J) (h1 : ¬ sg X c 42) (h2 : ¬ sg X c 47) (N : Nat) : lp B_R_readProduct_10 (N + 1) () J = some (0, J) := by
  have st : B_R_readProduct_10 () J = some (.inr 0, J) := by
    unfold B_R_readProduct_10
    rw [bn_of (no_sg h rfl h1), if_pos rfl, bn_of (no_sg h rfl h2), if_pos rfl]
    rfl
  rw [lp_s, bn_of st]
  rfl
theorem sum_out {D : MI → MI → Prop} (h : LK X D c I J) (h1 : ¬ sg X c 43) (h2 : ¬ sg X c 45) (N : Nat) : lp B_R_readSum_10 (N + 1) () J = some (0, J) := by
  have st : B_R_readSum_10 () J = some (.inr 0, J) := by
    unfold B_R_readSum_10
    rw [bn_of (no_sg h rfl h1), if_pos rfl, bn_of (no_sg h rfl h2), if_pos rfl]
    rfl
  rw [lp_s, bn_of st]
  rfl
theorem sum_in {D : MI → MI → Prop} (h : LK X D c I J) {J1 : MI} (hr : F_R_reads J = some ((), J1)) (o : Int32) (ho : (o = 2 ∧ sg X c 43) ∨ (o = 3 ∧ sg X c 45)) (N : Nat) : lp B_R_readSum_10 (N + 1) () J = (bn F_R_readUnit fun v => if v = -1 then rt (-1) else RC o FU N) J1 := by
  have h0 : ¬ o = 0 := by rcases ho with e | e <;> (rw [e.1]; decide)
  rw [← prod_RC o h0]
  have e28 : B_R_readSum_10 () J = K_R_readSum_28 J := by
    unfold B_R_readSum_10
    rcases ho with e | e
    · rw [bn_of (yes_sg h rfl e.2), if_neg one_ne]
    · have n1 : ¬ sg X c 43 := fun z => absurd (z.2.symm.trans e.2.2) (by decide)
      rw [bn_of (no_sg h rfl n1), if_pos rfl, bn_of (yes_sg h rfl e.2), if_neg one_ne]
  have e1 : lp B_R_readSum_10 (N + 1) () J = bn K_R_readSum_28 (Sum.elim (lp B_R_readSum_10 N) rt) J := by
    rw [lp_e]
    exact bn_cg e28
  rw [e1]
  unfold K_R_readSum_28
  rw [bn_bn, bn_rd]
  rcases ho with e | e
  · have ev : J 207 18 = 43 := by rw [val_R h (Or.inr (Or.inr e.2.1))]; exact e.2.2
    rw [ev, if_pos rfl, bn_bn, bn_of hr, bn_bn, e.1]
    congr 2
    funext v
    rw [bn_ite]
    by_cases hv : v = -1
    · rw [if_pos hv, if_pos hv]; rfl
    · rw [if_neg hv, if_neg hv, bn_bn]; rfl
  · have ev : J 207 18 = 45 := by rw [val_R h (Or.inr (Or.inr e.2.1))]; exact e.2.2
    rw [ev, if_neg (by decide), bn_bn, bn_of hr, bn_bn, e.1]
    congr 2
    funext v
    rw [bn_ite]
    by_cases hv : v = -1
    · rw [if_pos hv, if_pos hv]; rfl
    · rw [if_neg hv, if_neg hv, bn_bn]; rfl
theorem sum_go (hX : Cxt X) {c0 : Nat} (hes : es.length ≤ c0) : ∀ (M c : Nat) (nw : CL) (o : Int32) (Na Np Ns q : Nat) (I J : MI), 401 ≤ M + c → (o = 0 ∨ o = 2 ∨ o = 3) → LK X (DE (es ++ nw) G) c I J → nw.length + (if o = 0 then 0 else 1) + c0 ≤ c → c0 < c → tyP o nw → 401 < Na + c → 401 < Np + c → 401 < Ns + c → q ≤ c → Ok2 (SA Na (pc o) (nn q)) (RC o Np Ns) I J (SP X es G c0) := by
  intro M
  induction M with
  | zero => intro c nw o Na Np Ns q I J hM ho hL; have := lk_c hX hL; omega
  | succ M ih =>
    intro c nw o Na Np Ns q I J hM ho hL hlen hc0 hty hNa hNp hNs hq
    have hc := lk_c hX hL
    obtain ⟨Na, rfl⟩ : ∃ N', Na = N' + 1 := ⟨Na - 1, by omega⟩
    obtain ⟨Np, rfl⟩ : ∃ N', Np = N' + 1 := ⟨Np - 1, by omega⟩
    obtain ⟨Ns, rfl⟩ : ∃ N', Ns = N' + 1 := ⟨Ns - 1, by omega⟩
    have hlen2 : (es ++ nw).length = es.length + nw.length := List.length_append
    have hpc : pc 0 = 0 := if_pos rfl
    by_cases hsg : sg X c 43 ∨ sg X c 45 ∨ sg X c 42 ∨ sg X c 47
    · have k4 : KD X c = 4 := by rcases hsg with z | z | z | z <;> exact z.1
      have h0 : ¬ KD X c = 0 := by rw [k4]; decide
      have hlt := kd_lt hX hL h0
      have hX1 := hX.1
      have hX2 := hX.2.1
      have hq4 : nn q < (400 : Int32) := (nn_lt (k := 400) (by omega) (by omega)).mpr (by omega)
      have rk := reck_A hX hL
      rw [if_pos hsg] at rk
      by_cases hpm : sg X c 43 ∨ sg X c 45
      · -- plus or minus
        obtain ⟨o', ho', hoo⟩ : ∃ o' : Int32, ((o' = 2 ∧ sg X c 43) ∨ (o' = 3 ∧ sg X c 45)) ∧ (o' = 2 ∨ o' = 3) := by
          rcases hpm with z | z
          · exact ⟨2, Or.inl ⟨rfl, z⟩, Or.inl rfl⟩
          · exact ⟨3, Or.inr ⟨rfl, z⟩, Or.inr rfl⟩
        have n42 : ¬ sg X c 42 := fun z => by
          rcases hpm with w | w
          · exact absurd (w.2.symm.trans z.2) (by decide)
          · exact absurd (w.2.symm.trans z.2) (by decide)
        have n47 : ¬ sg X c 47 := fun z => by
          rcases hpm with w | w
          · exact absurd (w.2.symm.trans z.2) (by decide)
          · exact absurd (w.2.symm.trans z.2) (by decide)
        have o'0 : ¬ o' = 0 := by rcases hoo with e | e <;> (rw [e]; decide)
        -- what follows when the waiting one is out
        have after : ∀ (nw1 : CL) (I1 J1 : MI), LK X (DE (es ++ nw1) G) c I1 J1 → nw1.length + c0 ≤ c → tyP 0 nw1 → Ok2 (bn (K_Reader_sum_64 (pc o) (nn q) (VL X c)) (SAk Na)) (lp B_R_readSum_10 (Ns + 1) ()) I1 J1 (SP X es G c0) := by
          intro nw1 I1 J1 hL1 hlen1 hty1
          have hl1 : (es ++ nw1).length = es.length + nw1.length := List.length_append
          obtain ⟨J2, g1, g2⟩ := p_step hX (stab_DE _ _) hL1 h0
          have e64 : K_Reader_sum_64 (pc o) (nn q) (VL X c) = K_Reader_sum_89 (pc o') (nn q) (VL X c) := by
            unfold K_Reader_sum_64
            rcases ho' with z | z
            · rw [z.2.2, if_pos rfl, if_pos rfl, z.1]; rfl
            · rw [z.2.2, if_neg (by decide), if_pos rfl, if_neg (by decide), z.1]; rfl
          have v47 : ¬ VL X c = 47 := fun z => n47 ⟨k4, z⟩
          have v42 : ¬ VL X c = 42 := fun z => n42 ⟨k4, z⟩
          refine o2_eq rfl (sum_in hL1 g1 o' ho' Ns) ?_
          rw [e64]
          unfold K_Reader_sum_89
          rw [bn_bn, o2L (step_A hX hL1 h0), if_neg v47, bn_bn]
          refine o2_bn (p_unit hX g2 (by omega)) fun r s I3 J3 hP => ?_
          rcases hP with ⟨rfl, rfl, hE⟩ | ⟨rfl, rfl, x, hL3, htx⟩
          · rw [if_pos rfl, if_pos rfl, gdZ0, bn_rt]
            show Ok2 (rt 0) (rt (-1)) _ _ _
            rw [o2_rt]
            exact Or.inl ⟨rfl, rfl, hE⟩
          · rw [if_neg one_ne, if_neg zm_ne, if_neg v42, if_neg v47, bn_rt, nn_s]
            show Ok2 (SA Na (pc o') (nn (q + 1))) (RC o' FU Ns) I3 J3 _
            rw [List.append_assoc] at hL3
            refine ih (c + 1 + 1) (nw1 ++ [x]) o' Na FU Ns (q + 1) I3 J3 (by omega) (Or.inr hoo) hL3 ?_ (by omega) ?_ (by omega) (by rw [FU_eq]; omega) (by omega) (by omega)
            · rw [if_neg o'0, List.length_append]
              show nw1.length + 1 + 1 + c0 ≤ _
              omega
            · intro st hst
              rw [if_neg o'0]
              have t1 := hty1 st hst
              rw [if_pos rfl] at t1
              obtain ⟨z, hz, t1⟩ := t1
              obtain ⟨w, hw, t2⟩ := htx (z :: st) (by show st.length + 1 < 40; omega)
              exact ⟨w, z, hw, hz, tyL_snoc _ _ _ _ _ t1 t2⟩
        -- the class's loop comes to the same place
        have cls : ∀ (I1 : MI), (if o = 0 then I1 = I else F_Law_add 95 (pc o) I = some ((), I1)) → SA (Na + 1) (pc o) (nn q) I = (bn (K_Reader_sum_64 (pc o) (nn q) (VL X c)) (SAk Na)) I1 := by
          intro I1 hI1
          have eb : B_Reader_sum_13 (pc o, nn q) I = K_Reader_sum_64 (pc o) (nn q) (VL X c) I1 := by
            unfold B_Reader_sum_13
            rw [if_pos (show (pc o, nn q).2 < (400 : Int32) from hq4), bn_of rk, if_neg one_ne, bn_rd, bn_of (val_A hX hL)]
            by_cases hz : o = 0
            · rw [if_pos hz] at hI1
              have hp0 : (pc o, nn q).1 = 0 := by show pc o = 0; rw [hz]; exact hpc
              rw [hI1]
              rcases hpm with w | w
              · rw [if_pos w.2, if_pos hp0]
              · rw [if_neg (show ¬ VL X c = 43 from fun z => absurd (w.2.symm.trans z) (by decide)), if_pos w.2, if_pos hp0]
            · rw [if_neg hz] at hI1
              have hp0 : ¬ (pc o, nn q).1 = 0 := by
                show ¬ pc o = 0
                rcases ho with e | e | e
                · exact absurd e hz
                · rw [e]; decide
                · rw [e]; decide
              rcases hpm with w | w
              · rw [if_pos w.2, if_neg hp0]; exact bn_of hI1
              · rw [if_neg (show ¬ VL X c = 43 from fun z => absurd (w.2.symm.trans z) (by decide)), if_pos w.2, if_neg hp0]; exact bn_of hI1
          rw [SA_s]
          exact bn_cg eb
        unfold RC
        rw [o2R (prod_out hL n42 n47 Np), if_neg zm_ne]
        by_cases hz : o = 0
        · rw [if_pos hz]
          rw [if_pos hz] at hlen
          refine o2_eq (cls I (by rw [if_pos hz])) rfl (after nw I J hL (by omega) ?_)
          rw [hz] at hty; exact hty
        · rw [if_neg hz]
          rw [if_neg hz] at hlen
          have h23 : o = 2 ∨ o = 3 := ho.resolve_left hz
          obtain ⟨I1, J1, q1, q2, q3⟩ := p_emit hL (by rw [hlen2]; omega) o 0 (h23.elim (fun e => n9 2 e (by decide) (by decide)) fun e => n9 3 e (by decide) (by decide))
          have epc : pc o = codOf o 0 := if_neg hz
          rw [o2R q2]
          rw [List.append_assoc] at q3
          refine o2_eq (cls I1 (by rw [if_neg hz, epc]; exact q1)) rfl (after (nw ++ [(o, 0)]) I1 J1 q3 (by rw [List.length_append]; show nw.length + 1 + c0 ≤ c; omega) ?_)
          intro st hst
          rw [if_pos rfl]
          have t1 := hty st hst
          rw [if_neg hz] at t1
          obtain ⟨z, y, hz1, hy1, t1⟩ := t1
          exact ⟨0, by decide, tyL_snoc _ _ _ _ _ t1 (ty_op (h23.imp id Or.inl) hz1 hy1)⟩
      · -- times or over
        have n43 : ¬ sg X c 43 := fun z => hpm (Or.inl z)
        have n45 : ¬ sg X c 45 := fun z => hpm (Or.inr z)
        have v43 : ¬ VL X c = 43 := fun z => n43 ⟨k4, z⟩
        have v45 : ¬ VL X c = 45 := fun z => n45 ⟨k4, z⟩
        have hmd : sg X c 42 ∨ sg X c 47 := by
          rcases hsg with z | z | z
          · exact absurd z n43
          · exact absurd z n45
          · exact z
        obtain ⟨J2, g1, g2⟩ := p_step hX (stab_DE _ _) hL h0
        have eb : B_Reader_sum_13 (pc o, nn q) I = K_Reader_sum_89 (pc o) (nn q) (VL X c) I := by
          unfold B_Reader_sum_13
          rw [if_pos (show (pc o, nn q).2 < (400 : Int32) from hq4), bn_of rk, if_neg one_ne, bn_rd, bn_of (val_A hX hL)]
          rw [if_neg v43, if_neg v45]
          unfold K_Reader_sum_64
          rw [if_neg v43, if_neg v45]
        have eA : SA (Na + 1) (pc o) (nn q) I = (bn (K_Reader_sum_89 (pc o) (nn q) (VL X c)) (SAk Na)) I := by
          rw [SA_s]
          exact bn_cg eb
        have e28 : B_R_readProduct_10 () J = K_R_readProduct_28 J := by
          unfold B_R_readProduct_10
          by_cases z : sg X c 42
          · rw [bn_of (yes_sg hL rfl z), if_neg one_ne]
          · rw [bn_of (no_sg hL rfl z), if_pos rfl, bn_of (yes_sg hL rfl (hmd.resolve_left z)), if_neg one_ne]
        have eB : RC o (Np + 1) (Ns + 1) J = bn K_R_readProduct_28 (Sum.elim (fun _ => RC o Np (Ns + 1)) fun v => if v = -1 then rt (-1) else if o = 0 then lp B_R_readSum_10 (Ns + 1) () else bn (F_R_emits o 0) fun _ => lp B_R_readSum_10 (Ns + 1) ()) J := by
          unfold RC
          rw [lp_bn]
          exact bn_cg e28
        refine o2_eq eA eB ?_
        unfold K_Reader_sum_89
        rw [bn_bn, o2L (step_A hX hL h0)]
        -- after the unit: the sign is written
        have fin : ∀ (x : Int32 × Int32) (p : Int32) (I3 J3 : MI), (p = 4 ∨ p = 5) → LK X (DE (es ++ nw ++ [x]) G) (c + 1 + 1) I3 J3 → (∀ st : List Nat, st.length < 40 → ∃ z, z ≠ 1 ∧ (p = 5 → z = 2) ∧ tyStep x.1 x.2 st = some (z :: st)) → ∃ I4 J4, F_Law_add 95 (codOf p 0) I3 = some ((), I4) ∧ F_R_emits p 0 J3 = some ((), J4) ∧ Ok2 (SA Na (pc o) (nn (q + 1))) (RC o Np (Ns + 1)) I4 J4 (SP X es G c0) := by
          intro x p I3 J3 hp hL3 htx
          have hl3 : (es ++ nw ++ [x]).length = es.length + nw.length + 1 := by rw [List.length_append, List.length_append]; rfl
          have hz1 : nw.length + c0 ≤ c := by split at hlen <;> omega
          obtain ⟨I4, J4, q1, q2, q3⟩ := p_emit hL3 (by rw [hl3]; have := lk_c hX hL3; omega) p 0 (hp.elim (fun e => n9 4 e (by decide) (by decide)) fun e => n9 5 e (by decide) (by decide))
          refine ⟨I4, J4, q1, q2, ?_⟩
          rw [List.append_assoc, List.append_assoc, ← List.append_assoc nw] at q3
          refine ih (c + 1 + 1) (nw ++ [x] ++ [(p, 0)]) o Na Np (Ns + 1) (q + 1) I4 J4 (by omega) ho q3 ?_ (by omega) ?_ (by omega) (by omega) (by omega) (by omega)
          · rw [List.length_append, List.length_append]
            show nw.length + 1 + 1 + _ + c0 ≤ _
            omega
          · intro st hst
            have t1 := hty st hst
            by_cases hz : o = 0
            · rw [if_pos hz] at t1 ⊢
              obtain ⟨z, hz, t1⟩ := t1
              obtain ⟨w, hw, hw5, t2⟩ := htx (z :: st) (by show st.length + 1 < 40; omega)
              refine ⟨0, by decide, tyL_snoc _ _ _ _ _ (tyL_snoc _ _ _ _ _ t1 t2) ?_⟩
              rcases hp with e | e
              · rw [e]; exact ty_op (Or.inr (Or.inr rfl)) hw hz
              · rw [e, hw5 e]; exact ty_div hz
            · rw [if_neg hz] at t1 ⊢
              obtain ⟨z, y, hz, hy, t1⟩ := t1
              obtain ⟨w, hw, hw5, t2⟩ := htx (z :: y :: st) (by show st.length + 1 + 1 < 40; omega)
              refine ⟨0, y, by decide, hy, tyL_snoc _ _ _ _ _ (tyL_snoc _ _ _ _ _ t1 t2) ?_⟩
              rcases hp with e | e
              · rw [e]; exact ty_op (Or.inr (Or.inr rfl)) hw hz
              · rw [e, hw5 e]; exact ty_div hz
        have hzl : nw.length + c0 ≤ c := by split at hlen <;> omega
        unfold K_R_readProduct_28
        by_cases h42 : sg X c 42
        · have v42 := h42.2
          rw [bn_bn, o2R (yes_sg hL rfl h42), bn_bn, o2R g1, if_neg one_ne, if_neg one_ne, v42, if_neg (by decide), bn_bn]
          unfold K_R_readProduct_74
          rw [bn_bn]
          refine o2_bn (p_unit hX g2 (by rw [hlen2]; omega)) fun r s I3 J3 hP => ?_
          rcases hP with ⟨rfl, rfl, hE⟩ | ⟨rfl, rfl, x, hL3, htx⟩
          · rw [if_pos rfl, if_pos rfl, gdZ0, bn_rt, bn_rt]
            exact ⟨0, _, -1, _, rfl, rfl, Or.inl ⟨rfl, rfl, hE⟩⟩
          · obtain ⟨I4, J4, q1, q2, q3⟩ := fin x 4 I3 J3 (Or.inl rfl) hL3 fun st hs => by
              obtain ⟨z, hz, t⟩ := htx st hs
              exact ⟨z, hz, fun e => absurd e (by decide), t⟩
            rw [cod_4] at q1
            rw [if_neg one_ne, if_neg zm_ne, if_pos rfl, if_neg one_ne]
            unfold K_Reader_sum_130
            rw [if_pos rfl, bn_bn, o2L q1, bn_rt, bn_bn, o2R q2, bn_rt, nn_s]
            exact q3
        · have h47 := hmd.resolve_left h42
          have v47 := h47.2
          have k1 := kind_R g2
          rw [bn_bn, o2R (no_sg hL rfl h42), bn_bn, o2R g1, if_pos rfl, bn_bn, o2R e_rd, k1, v47, if_pos rfl, bn_bn]
          unfold F_Reader_part
          rw [bn_bn, o2L e_rd, bn_bn, o2L (kind_A hX g2)]
          by_cases hk3 : KD X (c + 1) = 3
          · have hv := val_R g2 (Or.inr (Or.inl hk3))
            rw [if_pos hk3, if_pos (kR_3.mpr hk3), if_pos rfl, if_pos rfl, bn_bn, o2L e_rd, bn_bn, o2L (val_A hX g2), bn_bn, o2R e_rd, hv]
            by_cases hv0 : VL X (c + 1) = 0
            · obtain ⟨I1, J1, f1, f2, f3⟩ := p_fail hX g2 2
              rw [if_pos hv0, if_pos hv0]
              refine ⟨0, I1, -1, J1, ?_, ?_, Or.inl ⟨rfl, rfl, f3⟩⟩
              · rw [bn_bn, bn_of f1]; rfl
              · rw [bn_bn, bn_of f2]; rfl
            · obtain ⟨I1, I2, J3, u1, u2, u3, u4⟩ := p_unum hX g2 (by rw [hlen2]; omega) hk3
              obtain ⟨I4, J4, q1, q2, q3⟩ := fin (0, VL X (c + 1)) 5 I2 J3 (Or.inr rfl) u4 fun st hs => by
                refine ⟨2, by decide, fun _ => rfl, ?_⟩
                show tyStep 0 (VL X (c + 1)) st = _
                unfold tyStep
                rw [if_pos rfl, if_pos hs, if_neg hv0]
              rw [cod_5] at q1
              unfold K_R_readProduct_74
              rw [if_neg hv0, if_neg hv0, bn_bn, o2L e_rd, bn_bn, o2L (val_A hX g2), bn_bn, o2L u1, bn_bn, o2L u2, gdZ1, bn_rt, bn_rt, if_neg one_ne, if_neg (by decide), bn_bn, o2R u3, if_neg zm_ne, if_pos rfl]
              unfold K_Reader_sum_130
              rw [if_neg (by decide), bn_bn, o2L q1, bn_rt, bn_bn, o2R q2, bn_rt, nn_s]
              exact q3
          · obtain ⟨I1, J1, f1, f2, f3⟩ := p_fail hX g2 1
            rw [if_neg hk3, if_neg fun z => hk3 (kR_3.mp z)]
            refine ⟨0, I1, -1, J1, ?_, ?_, Or.inl ⟨rfl, rfl, f3⟩⟩
            · rw [bn_bn, bn_of f1]; rfl
            · rw [bn_bn, bn_of f2]; rfl
    · -- no sign: all out
      have n43 : ¬ sg X c 43 := fun z => hsg (Or.inl z)
      have n45 : ¬ sg X c 45 := fun z => hsg (Or.inr (Or.inl z))
      have n42 : ¬ sg X c 42 := fun z => hsg (Or.inr (Or.inr (Or.inl z)))
      have n47 : ¬ sg X c 47 := fun z => hsg (Or.inr (Or.inr (Or.inr z)))
      have rk := reck_A hX hL
      rw [if_neg hsg] at rk
      have eb : B_Reader_sum_13 (pc o, nn q) I = some (.inr (.inl (pc o)), I) := by
        unfold B_Reader_sum_13
        by_cases hq4 : nn q < (400 : Int32)
        · rw [if_pos (show (pc o, nn q).2 < (400 : Int32) from hq4), bn_of rk, if_pos rfl]; rfl
        · rw [if_neg (show ¬ (pc o, nn q).2 < (400 : Int32) from hq4)]; rfl
      unfold RC
      rw [SA_s, o2L eb, o2R (prod_out hL n42 n47 Np), if_neg zm_ne]
      show Ok2 (K_Reader_sum_159 (pc o)) _ _ _ _
      unfold K_Reader_sum_159
      by_cases hz : o = 0
      · rw [if_pos hz, if_pos (by rw [hz]; exact hpc), gdZ1, bn_rt]
        rw [if_pos hz] at hlen
        refine o2_eq rfl (show lp B_R_readSum_10 (Ns + 1) () J = rt 0 J from sum_out hL n43 n45 Ns) ?_
        rw [o2_rt]
        refine Or.inr ⟨rfl, rfl, c, nw, hc0, by omega, hL, fun st hst => ?_⟩
        have t1 := hty st hst
        rw [if_pos hz] at t1
        exact t1
      · have hp0 : ¬ pc o = 0 := by
          rcases ho with e | e | e
          · exact absurd e hz
          · rw [e]; decide
          · rw [e]; decide
        rw [if_neg hz] at hlen
        have h23 : o = 2 ∨ o = 3 := ho.resolve_left hz
        obtain ⟨I1, J1, q1, q2, q3⟩ := p_emit hL (by rw [hlen2]; omega) o 0 (h23.elim (fun e => n9 2 e (by decide) (by decide)) fun e => n9 3 e (by decide) (by decide))
        have epc : pc o = codOf o 0 := if_neg hz
        rw [if_neg hz, if_neg hp0, o2R q2, epc, o2L q1, gdZ1, bn_rt]
        refine o2_eq rfl (show lp B_R_readSum_10 (Ns + 1) () J1 = rt 0 J1 from sum_out q3 n43 n45 Ns) ?_
        rw [o2_rt]
        rw [List.append_assoc] at q3
        refine Or.inr ⟨rfl, rfl, c, nw ++ [(o, 0)], hc0, by rw [List.length_append]; show nw.length + 1 + c0 ≤ c; omega, q3, fun st hst => ?_⟩
        have t1 := hty st hst
        rw [if_neg hz] at t1
        obtain ⟨z, y, hz1, hy1, t1⟩ := t1
        exact ⟨0, by decide, tyL_snoc _ _ _ _ _ t1 (ty_op (h23.imp id Or.inl) hz1 hy1)⟩
theorem p_sum (hX : Cxt X) (hL : LK X (DE es G) c I J) (hes : es.length ≤ c) : Ok2 F_Reader_sum F_R_readSum I J (SP X es G c) := by
  have eR : F_R_readSum = bn F_R_readUnit fun v => if v = -1 then rt (-1) else RC 0 FU FU := by
    unfold F_R_readSum F_R_readProduct K_R_readProduct_10 K_R_readSum_10 RC
    rw [bn_bn]
    congr 1
    funext v
    rw [bn_ite]
    by_cases hv : v = -1
    · rw [if_pos hv, if_pos hv, bn_rt, if_pos rfl]
    · rw [if_neg hv, if_neg hv]
      congr 1
  rw [eR]
  unfold F_Reader_sum
  refine o2_bn (p_unit hX hL hes) fun r s I3 J3 hP => ?_
  rcases hP with ⟨rfl, rfl, hE⟩ | ⟨rfl, rfl, x, hL3, htx⟩
  · rw [if_pos rfl, if_pos rfl, gdZ0, bn_rt, o2_rt]
    exact Or.inl ⟨rfl, rfl, hE⟩
  · rw [if_neg one_ne, if_neg zm_ne, SA_eq]
    refine sum_go hX hes 401 (c + 1) [x] 0 FU FU FU 0 I3 J3 (by omega) (Or.inl rfl) hL3 ?_ (by omega) (fun st hst => ?_) (by rw [FU_eq]; omega) (by rw [FU_eq]; omega) (by rw [FU_eq]; omega) (by omega)
    · rw [if_pos rfl]; show 1 + 0 + c ≤ _; omega
    · rw [if_pos rfl]
      obtain ⟨z, hz, t⟩ := htx st (by omega)
      exact ⟨z, hz, tyL_snoc [] x st st _ rfl t⟩
end
end TM99
