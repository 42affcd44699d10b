/-! text: how far blanks go, reference -/
section TD99
def blkC (x : Int32) : Bool := decide (x = 32 ∨ x = 10)
theorem blk_m1 : ¬ blkC (-1) = true := by decide
theorem blk_st {n s : Nat} {J : MI} (hn : n ≤ 400) (hs : s ≤ n) (h14 : J 207 14 = nn n) (h15 : J 207 15 = nn s) : B_R_reads_0 () J = some (if blkC (if s < n then J 216 s else -1) = true then (.inl (), bup J 207 (upd (J 207) 15 (nn (s + 1)))) else (.inr (), J)) := by
  have hO : Ok (B_R_reads_0 ()) J fun r K => (r, K) = if blkC (if s < n then J 216 s else -1) = true then (.inl (), bup J 207 (upd (J 207) 15 (nn (s + 1)))) else (.inr (), J) := by
    unfold B_R_reads_0
    generalize hc : (if s < n then J 216 s else -1) = c
    have hr : F_R_raw (nn s) J = some (c, J) := by rw [raw_R hn hs h14, hc]
    unfold blkC
    by_cases h1 : c = 32
    · rw [if_pos (decide_eq_true (Or.inl h1))]
      simp only [ok_bn, ok_rd, h15, ok_eq hr, ok_ite, if_pos h1, ok_wr, ok_rt, nn_s]
    · by_cases h2 : c = 10
      · rw [if_pos (decide_eq_true (Or.inr h2))]
        simp only [ok_bn, ok_rd, h15, ok_eq hr, ok_ite, if_neg h1, if_pos h2, ok_wr, ok_rt, nn_s]
      · rw [if_neg fun q => (of_decide_eq_true q).elim h1 h2]
        simp only [ok_bn, ok_rd, h15, ok_eq hr, ok_ite, if_neg h1, if_neg h2, ok_rt]
  obtain ⟨r, K, q1, q2⟩ := hO
  rw [q1, q2]
theorem blkR_run {n : Nat} (hn : n ≤ 400) : ∀ m s N (J : MI), m + s = n → m < N → J 207 14 = nn n → J 207 15 = nn s → Ok (lp B_R_reads_0 N ()) J fun _ K => only15 J K ∧ K 207 15 = nn (spn blkC (J 216) m s) := by
  intro m
  induction m with
  | zero =>
    intro s N J hm hN h14 h15
    obtain ⟨N, rfl⟩ : ∃ N', N = N' + 1 := ⟨N - 1, by omega⟩
    have st := blk_st hn (show s ≤ n by omega) h14 h15
    rw [if_neg (show ¬ s < n by omega), if_neg blk_m1] at st
    rw [lp_s, ok_bn, ok_eq st]
    show Ok (rt ()) _ _
    rw [ok_rt]
    exact ⟨⟨fun _ _ => rfl, fun _ _ => rfl⟩, h15⟩
  | succ m ih =>
    intro s N J hm hN h14 h15
    obtain ⟨N, rfl⟩ : ∃ N', N = N' + 1 := ⟨N - 1, by omega⟩
    have e : spn blkC (J 216) (m + 1) s = if blkC (J 216 s) = true then spn blkC (J 216) m (s + 1) else s := rfl
    have st := blk_st hn (show s ≤ n by omega) h14 h15
    rw [if_pos (show s < n by omega)] at st
    rw [e]
    by_cases h : blkC (J 216 s) = true
    · rw [if_pos h] at st
      rw [lp_s, ok_bn, ok_eq st, if_pos h]
      refine ok_mono (ih (s + 1) N _ (by omega) (by omega) (by rw [bup_eq, upd_ne _ _ (by decide)]; exact h14) (by rw [bup_eq, upd_eq])) fun _ K q => ?_
      obtain ⟨⟨q1, q2⟩, q3⟩ := q
      refine ⟨⟨fun a ha => ?_, fun k hk => ?_⟩, ?_⟩
      · rw [q1 a ha, bup_ne _ _ ha]
      · rw [q2 k hk, bup_eq, upd_ne _ _ hk]
      · rw [q3, bup_ne _ _ (by decide)]
    · rw [if_neg h] at st
      rw [lp_s, ok_bn, ok_eq st, if_neg h]
      show Ok (rt ()) _ _
      rw [ok_rt]
      exact ⟨⟨fun _ _ => rfl, fun _ _ => rfl⟩, h15⟩
end TD99
