/-! text: how far letters go, reference -/
section TC99
theorem raw_R {J : MI} {n s : Nat} (hn : n ≤ 400) (hs : s ≤ n) (h : J 207 14 = nn n) : F_R_raw (nn s) J = some (if s < n then J 216 s else -1, J) := by
  have hO : Ok (F_R_raw (nn s)) J fun r K => r = (if s < n then J 216 s else -1) ∧ K = J := by
    unfold F_R_raw
    by_cases q : s < n
    · have g : nn s < nn n := (nn_lt (by omega) (by omega)).mpr q
      have i1 : inR (nn s) 400 = true := inR_nn (by omega) (by omega)
      have t1 : (nn s).toNatClampNeg = s := nn_nat (by omega)
      simp only [ok_bn, ok_rd, h, ok_ite, if_pos g, ok_ld, i1, t1, ok_rt, if_pos q, and_self]
    · have g : ¬ nn s < nn n := fun z => q ((nn_lt (by omega) (by omega)).mp z)
      simp only [ok_bn, ok_rd, h, ok_ite, if_neg g, ok_rt, if_neg q, and_self]
  obtain ⟨r, K, q1, rfl, rfl⟩ := hO
  exact q1
theorem let_m1 : ¬ letC (-1) = true := by decide
theorem dig_m1 : ¬ digC (-1) = true := by decide
def only15 (J K : MI) : Prop := (∀ a, a ≠ 207 → K a = J a) ∧ ∀ k, k ≠ 15 → K 207 k = J 207 k
theorem letR_run {n : Nat} (hn : n ≤ 400) : ∀ m s N (J : MI), m + s = n → m < N → J 207 14 = nn n → J 207 15 = nn s → Ok (lp B_R_reads_95 N ()) J fun _ K => only15 J K ∧ K 207 15 = nn (spn letC (J 216) m s) := by
  intro m
  induction m with
  | zero =>
    intro s N J hm hN h14 h15
    obtain ⟨N, rfl⟩ : ∃ N', N = N' + 1 := ⟨N - 1, by omega⟩
    have st : B_R_reads_95 () J = some (.inr (), J) := by
      have hO : Ok (B_R_reads_95 ()) J fun r K => r = .inr () ∧ K = J := by
        unfold B_R_reads_95
        simp only [ok_bn, ok_rd, h15, ok_eq (raw_R hn (show s ≤ n by omega) h14), if_neg (show ¬ s < n by omega), let_R, ok_rt, if_neg let_m1, ok_ite, if_true, and_self]
      obtain ⟨r, K, q1, rfl, rfl⟩ := hO
      exact q1
    rw [lp_s, ok_bn, ok_eq st]
    show Ok (rt ()) _ _
    rw [ok_rt]
    exact ⟨⟨fun _ _ => rfl, fun _ _ => rfl⟩, h15⟩
  | succ m ih =>
    intro s N J hm hN h14 h15
    obtain ⟨N, rfl⟩ : ∃ N', N = N' + 1 := ⟨N - 1, by omega⟩
    have e : spn letC (J 216) (m + 1) s = if letC (J 216 s) = true then spn letC (J 216) m (s + 1) else s := rfl
    rw [e]
    by_cases h : letC (J 216 s) = true
    · have st : B_R_reads_95 () J = some (.inl (), bup J 207 (upd (J 207) 15 (nn (s + 1)))) := by
        have hO : Ok (B_R_reads_95 ()) J fun r K => r = .inl () ∧ K = bup J 207 (upd (J 207) 15 (nn (s + 1))) := by
          unfold B_R_reads_95
          simp only [ok_bn, ok_rd, h15, ok_eq (raw_R hn (show s ≤ n by omega) h14), if_pos (show s < n by omega), let_R, ok_rt, if_pos h, ok_ite, if_neg one_ne, ok_wr, nn_s, and_self]
        obtain ⟨r, K, q1, rfl, rfl⟩ := hO
        exact q1
      rw [lp_s, ok_bn, ok_eq st, if_pos h]
      refine ok_mono (ih (s + 1) N _ (by omega) (by omega) (by rw [bup_eq, upd_ne _ _ (by decide)]; exact h14) (by rw [bup_eq, upd_eq])) fun _ K q => ?_
      obtain ⟨⟨q1, q2⟩, q3⟩ := q
      refine ⟨⟨fun a ha => ?_, fun k hk => ?_⟩, ?_⟩
      · rw [q1 a ha, bup_ne _ _ ha]
      · rw [q2 k hk, bup_eq, upd_ne _ _ hk]
      · rw [q3, bup_ne _ _ (by decide)]
    · have st : B_R_reads_95 () J = some (.inr (), J) := by
        have hO : Ok (B_R_reads_95 ()) J fun r K => r = .inr () ∧ K = J := by
          unfold B_R_reads_95
          simp only [ok_bn, ok_rd, h15, ok_eq (raw_R hn (show s ≤ n by omega) h14), if_pos (show s < n by omega), let_R, ok_rt, if_neg h, ok_ite, if_true, and_self]
        obtain ⟨r, K, q1, rfl, rfl⟩ := hO
        exact q1
      rw [lp_s, ok_bn, ok_eq st, if_neg h]
      show Ok (rt ()) _ _
      rw [ok_rt]
      exact ⟨⟨fun _ _ => rfl, fun _ _ => rfl⟩, h15⟩
end TC99
