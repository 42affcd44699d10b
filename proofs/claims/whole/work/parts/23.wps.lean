/-! what is wanted is enough -/
section PH4
variable {L : Nat} {X : Nat → Int32} {d z pc : Nat} {cuts : List (Nat × List Bool)} {ls st : List Value} {h : PH} {o : Option Value × PH}
theorem nxt_ok {k : Nat → List Value → List Value → PH → Prop} (hk : ∀ pc ls st h, k pc ls st h → Seg L X (d + 1) z pc ls st h o) (hn : nxtP L X d z cuts o k pc ls st h) : Seg L X (d + 1) z pc ls st h o := by
  unfold nxtP at hn
  split at hn
  · split at hn
    · rename_i hm
      exact seg_forget (mask_lss _ _ hm) hn
    · cases hn
  · exact hk _ _ _ _ hn
theorem wp_sound {m : MR} (hz : pT[z]? = some m) : ∀ (k pc : Nat) (ls st : List Value) (h : PH), wp L X d z m.2.2.2.1 m.1 cuts o k pc ls st h → Seg L X (d + 1) z pc ls st h o := by
  intro k
  induction k with
  | zero => intro pc ls st h hw; cases hw
  | succ k ih =>
    intro pc ls st h hw
    unfold wp at hw
    have hfe : fetch pT z pc = look m.1 pc := by unfold fetch; rw [hz]
    cases hlk : look m.1 pc with
    | none => rw [hlk] at hw; cases hw
    | some q =>
      obtain ⟨op, len⟩ := q
      rw [hlk] at hw hfe
      dsimp only at hw
      by_cases hir : isRet op = true
      · rw [if_pos hir] at hw
        cases hv : retV op m.2.2.2.1 st with
        | none => rw [hv] at hw; cases hw
        | some v =>
          rw [hv] at hw
          dsimp only at hw
          subst hw
          exact seg_ret hfe hir hz hv
      · rw [if_neg hir] at hw
        have hir2 : isRet op = false := by simpa using hir
        cases hc : callee op with
        | some q =>
          rw [hc] at hw
          dsimp only at hw
          cases hq : pT[q]? with
          | none => rw [hq] at hw; cases hw
          | some mq =>
            rw [hq] at hw
            dsimp only at hw
            split at hw
            · rename_i hcond
              obtain ⟨hr, v, h1, hs, hn⟩ := recvP_ok hw
              simp only [Bool.and_eq_true] at hcond
              exact seg_call hfe hir2 hc hq (by simp only [Bool.and_eq_true]; exact ⟨⟨hcond.1, hr⟩, hcond.2⟩) hs (nxt_ok ih hn)
            · cases hw
        | none =>
          rw [hc] at hw
          dsimp only at hw
          split at hw
          · rename_i d0 lo hi ts x st
            split at hw
            · rename_i hok
              refine seg_step hfe rfl rfl (b := true) (p1 := swAt d0 lo ts.toList x) (p2 := swAt d0 lo ts.toList x) rfl ?_
              rw [if_pos rfl, sw_lk d0 x _ _ hok]
              exact nxt_ok ih (lkP_at (P := fun pc => nxtP L X d z cuts o (wp L X d z m.2.2.2.1 m.1 cuts o k) pc ls st h) hw)
            · cases hw
          · rename_i d0 ps x st
            refine seg_step hfe rfl rfl (b := true) (p1 := lkAt d0 ps.toList x) (p2 := lkAt d0 ps.toList x) rfl ?_
            rw [if_pos rfl]
            exact nxt_ok ih (lkP_at (P := fun pc => nxtP L X d z cuts o (wp L X d z m.2.2.2.1 m.1 cuts o k) pc ls st h) hw)
          · cases hst : stp pN pF L X op len pc ls st h with
            | none => rw [hst] at hw; cases hw
            | some w =>
              obtain ⟨ob, b, p1, p2, ls1, st1, h1⟩ := w
              rw [hst] at hw
              dsimp only at hw
              have fin : ob = true → (b = true → nxtP L X d z cuts o (wp L X d z m.2.2.2.1 m.1 cuts o k) p1 ls1 st1 h1) → (b = false → nxtP L X d z cuts o (wp L X d z m.2.2.2.1 m.1 cuts o k) p2 ls1 st1 h1) → Seg L X (d + 1) z pc ls st h o := by
                intro ho ht hf
                rw [ho] at hst
                refine seg_step hfe hir2 hc hst ?_
                cases b with
                | true => exact nxt_ok ih (ht rfl)
                | false => exact nxt_ok ih (hf rfl)
              split at hw
              · rename_i hob
                have hnc : isCnd op = false := by cases op <;> first | rfl | (cases hob; done)
                have hb := stp_b hnc hst
                exact fin hw.1 (fun _ => hw.2) (fun e => by rw [hb] at e; cases e)
              · rename_i hob
                have ho := stp_ob (by simpa using hob) hst
                split at hw
                · exact fin ho hw.1 hw.2
                · rename_i hnc
                  have hb := stp_b (by simpa using hnc) hst
                  exact fin ho (fun _ => hw) (fun e => by rw [hb] at e; cases e)
end PH4
