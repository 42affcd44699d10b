/-! a world is changed in one place (printed by wip/tools/mk40.py) -/
section WUP
theorem rW_f5 {I : MI} {w : Nat} {R : Nat → Int32} {x : Int32} (h : rW I w R) : rW (bup I w (upd (I w) 5 x)) w (upd R 0 x) := by
  unfold rW at h ⊢
  obtain ⟨h0, h1, h2, h3, h4, h5, h6, a0, a1, a2, a3, a4, a5⟩ := h
  refine ⟨?_, ?_, ?_, ?_, ?_, ?_, ?_, ?_, ?_, ?_, ?_, ?_, ?_⟩
  · exact by rw [upd_eq, bup_eq, upd_eq]
  · exact by rw [upd_ne _ _ (by decide), bup_eq, upd_ne _ _ (by decide)]; exact h1
  · exact by rw [upd_ne _ _ (by decide), bup_eq, upd_ne _ _ (by decide)]; exact h2
  · exact by rw [upd_ne _ _ (by decide), bup_eq, upd_ne _ _ (by decide)]; exact h3
  · exact by rw [upd_ne _ _ (by decide), bup_eq, upd_ne _ _ (by decide)]; exact h4
  · exact by rw [upd_ne _ _ (by decide), bup_eq, upd_ne _ _ (by decide)]; exact h5
  · exact by rw [upd_ne _ _ (by decide), bup_eq, upd_ne _ _ (by decide)]; exact h6
  · exact fun q hq => by rw [upd_ne _ _ (by omega), bup_ne _ _ (by omega)]; exact a0 q hq
  · exact fun q hq => by rw [upd_ne _ _ (by omega), bup_ne _ _ (by omega)]; exact a1 q hq
  · exact fun q hq => by rw [upd_ne _ _ (by omega), bup_ne _ _ (by omega)]; exact a2 q hq
  · exact fun q hq => by rw [upd_ne _ _ (by omega), bup_ne _ _ (by omega)]; exact a3 q hq
  · exact fun q hq => by rw [upd_ne _ _ (by omega), bup_ne _ _ (by omega)]; exact a4 q hq
  · exact fun q hq => by rw [upd_ne _ _ (by omega), bup_ne _ _ (by omega)]; exact a5 q hq
theorem rW_f4 {I : MI} {w : Nat} {R : Nat → Int32} {x : Int32} (h : rW I w R) : rW (bup I w (upd (I w) 4 x)) w (upd R 1 x) := by
  unfold rW at h ⊢
  obtain ⟨h0, h1, h2, h3, h4, h5, h6, a0, a1, a2, a3, a4, a5⟩ := h
  refine ⟨?_, ?_, ?_, ?_, ?_, ?_, ?_, ?_, ?_, ?_, ?_, ?_, ?_⟩
  · exact by rw [upd_ne _ _ (by decide), bup_eq, upd_ne _ _ (by decide)]; exact h0
  · exact by rw [upd_eq, bup_eq, upd_eq]
  · exact by rw [upd_ne _ _ (by decide), bup_eq, upd_ne _ _ (by decide)]; exact h2
  · exact by rw [upd_ne _ _ (by decide), bup_eq, upd_ne _ _ (by decide)]; exact h3
  · exact by rw [upd_ne _ _ (by decide), bup_eq, upd_ne _ _ (by decide)]; exact h4
  · exact by rw [upd_ne _ _ (by decide), bup_eq, upd_ne _ _ (by decide)]; exact h5
  · exact by rw [upd_ne _ _ (by decide), bup_eq, upd_ne _ _ (by decide)]; exact h6
  · exact fun q hq => by rw [upd_ne _ _ (by omega), bup_ne _ _ (by omega)]; exact a0 q hq
  · exact fun q hq => by rw [upd_ne _ _ (by omega), bup_ne _ _ (by omega)]; exact a1 q hq
  · exact fun q hq => by rw [upd_ne _ _ (by omega), bup_ne _ _ (by omega)]; exact a2 q hq
  · exact fun q hq => by rw [upd_ne _ _ (by omega), bup_ne _ _ (by omega)]; exact a3 q hq
  · exact fun q hq => by rw [upd_ne _ _ (by omega), bup_ne _ _ (by omega)]; exact a4 q hq
  · exact fun q hq => by rw [upd_ne _ _ (by omega), bup_ne _ _ (by omega)]; exact a5 q hq
theorem rW_f0 {I : MI} {w : Nat} {R : Nat → Int32} {x : Int32} (h : rW I w R) : rW (bup I w (upd (I w) 0 x)) w (upd R 2 x) := by
  unfold rW at h ⊢
  obtain ⟨h0, h1, h2, h3, h4, h5, h6, a0, a1, a2, a3, a4, a5⟩ := h
  refine ⟨?_, ?_, ?_, ?_, ?_, ?_, ?_, ?_, ?_, ?_, ?_, ?_, ?_⟩
  · exact by rw [upd_ne _ _ (by decide), bup_eq, upd_ne _ _ (by decide)]; exact h0
  · exact by rw [upd_ne _ _ (by decide), bup_eq, upd_ne _ _ (by decide)]; exact h1
  · exact by rw [upd_eq, bup_eq, upd_eq]
  · exact by rw [upd_ne _ _ (by decide), bup_eq, upd_ne _ _ (by decide)]; exact h3
  · exact by rw [upd_ne _ _ (by decide), bup_eq, upd_ne _ _ (by decide)]; exact h4
  · exact by rw [upd_ne _ _ (by decide), bup_eq, upd_ne _ _ (by decide)]; exact h5
  · exact by rw [upd_ne _ _ (by decide), bup_eq, upd_ne _ _ (by decide)]; exact h6
  · exact fun q hq => by rw [upd_ne _ _ (by omega), bup_ne _ _ (by omega)]; exact a0 q hq
  · exact fun q hq => by rw [upd_ne _ _ (by omega), bup_ne _ _ (by omega)]; exact a1 q hq
  · exact fun q hq => by rw [upd_ne _ _ (by omega), bup_ne _ _ (by omega)]; exact a2 q hq
  · exact fun q hq => by rw [upd_ne _ _ (by omega), bup_ne _ _ (by omega)]; exact a3 q hq
  · exact fun q hq => by rw [upd_ne _ _ (by omega), bup_ne _ _ (by omega)]; exact a4 q hq
  · exact fun q hq => by rw [upd_ne _ _ (by omega), bup_ne _ _ (by omega)]; exact a5 q hq
theorem rW_f6 {I : MI} {w : Nat} {R : Nat → Int32} {x : Int32} (h : rW I w R) : rW (bup I w (upd (I w) 6 x)) w (upd R 3 x) := by
  unfold rW at h ⊢
  obtain ⟨h0, h1, h2, h3, h4, h5, h6, a0, a1, a2, a3, a4, a5⟩ := h
  refine ⟨?_, ?_, ?_, ?_, ?_, ?_, ?_, ?_, ?_, ?_, ?_, ?_, ?_⟩
  · exact by rw [upd_ne _ _ (by decide), bup_eq, upd_ne _ _ (by decide)]; exact h0
  · exact by rw [upd_ne _ _ (by decide), bup_eq, upd_ne _ _ (by decide)]; exact h1
  · exact by rw [upd_ne _ _ (by decide), bup_eq, upd_ne _ _ (by decide)]; exact h2
  · exact by rw [upd_eq, bup_eq, upd_eq]
  · exact by rw [upd_ne _ _ (by decide), bup_eq, upd_ne _ _ (by decide)]; exact h4
  · exact by rw [upd_ne _ _ (by decide), bup_eq, upd_ne _ _ (by decide)]; exact h5
  · exact by rw [upd_ne _ _ (by decide), bup_eq, upd_ne _ _ (by decide)]; exact h6
  · exact fun q hq => by rw [upd_ne _ _ (by omega), bup_ne _ _ (by omega)]; exact a0 q hq
  · exact fun q hq => by rw [upd_ne _ _ (by omega), bup_ne _ _ (by omega)]; exact a1 q hq
  · exact fun q hq => by rw [upd_ne _ _ (by omega), bup_ne _ _ (by omega)]; exact a2 q hq
  · exact fun q hq => by rw [upd_ne _ _ (by omega), bup_ne _ _ (by omega)]; exact a3 q hq
  · exact fun q hq => by rw [upd_ne _ _ (by omega), bup_ne _ _ (by omega)]; exact a4 q hq
  · exact fun q hq => by rw [upd_ne _ _ (by omega), bup_ne _ _ (by omega)]; exact a5 q hq
theorem rW_f1 {I : MI} {w : Nat} {R : Nat → Int32} {x : Int32} (h : rW I w R) : rW (bup I w (upd (I w) 1 x)) w (upd R 4 x) := by
  unfold rW at h ⊢
  obtain ⟨h0, h1, h2, h3, h4, h5, h6, a0, a1, a2, a3, a4, a5⟩ := h
  refine ⟨?_, ?_, ?_, ?_, ?_, ?_, ?_, ?_, ?_, ?_, ?_, ?_, ?_⟩
  · exact by rw [upd_ne _ _ (by decide), bup_eq, upd_ne _ _ (by decide)]; exact h0
  · exact by rw [upd_ne _ _ (by decide), bup_eq, upd_ne _ _ (by decide)]; exact h1
  · exact by rw [upd_ne _ _ (by decide), bup_eq, upd_ne _ _ (by decide)]; exact h2
  · exact by rw [upd_ne _ _ (by decide), bup_eq, upd_ne _ _ (by decide)]; exact h3
  · exact by rw [upd_eq, bup_eq, upd_eq]
  · exact by rw [upd_ne _ _ (by decide), bup_eq, upd_ne _ _ (by decide)]; exact h5
  · exact by rw [upd_ne _ _ (by decide), bup_eq, upd_ne _ _ (by decide)]; exact h6
  · exact fun q hq => by rw [upd_ne _ _ (by omega), bup_ne _ _ (by omega)]; exact a0 q hq
  · exact fun q hq => by rw [upd_ne _ _ (by omega), bup_ne _ _ (by omega)]; exact a1 q hq
  · exact fun q hq => by rw [upd_ne _ _ (by omega), bup_ne _ _ (by omega)]; exact a2 q hq
  · exact fun q hq => by rw [upd_ne _ _ (by omega), bup_ne _ _ (by omega)]; exact a3 q hq
  · exact fun q hq => by rw [upd_ne _ _ (by omega), bup_ne _ _ (by omega)]; exact a4 q hq
  · exact fun q hq => by rw [upd_ne _ _ (by omega), bup_ne _ _ (by omega)]; exact a5 q hq
theorem rW_f2 {I : MI} {w : Nat} {R : Nat → Int32} {x : Int32} (h : rW I w R) : rW (bup I w (upd (I w) 2 x)) w (upd R 5 x) := by
  unfold rW at h ⊢
  obtain ⟨h0, h1, h2, h3, h4, h5, h6, a0, a1, a2, a3, a4, a5⟩ := h
  refine ⟨?_, ?_, ?_, ?_, ?_, ?_, ?_, ?_, ?_, ?_, ?_, ?_, ?_⟩
  · exact by rw [upd_ne _ _ (by decide), bup_eq, upd_ne _ _ (by decide)]; exact h0
  · exact by rw [upd_ne _ _ (by decide), bup_eq, upd_ne _ _ (by decide)]; exact h1
  · exact by rw [upd_ne _ _ (by decide), bup_eq, upd_ne _ _ (by decide)]; exact h2
  · exact by rw [upd_ne _ _ (by decide), bup_eq, upd_ne _ _ (by decide)]; exact h3
  · exact by rw [upd_ne _ _ (by decide), bup_eq, upd_ne _ _ (by decide)]; exact h4
  · exact by rw [upd_eq, bup_eq, upd_eq]
  · exact by rw [upd_ne _ _ (by decide), bup_eq, upd_ne _ _ (by decide)]; exact h6
  · exact fun q hq => by rw [upd_ne _ _ (by omega), bup_ne _ _ (by omega)]; exact a0 q hq
  · exact fun q hq => by rw [upd_ne _ _ (by omega), bup_ne _ _ (by omega)]; exact a1 q hq
  · exact fun q hq => by rw [upd_ne _ _ (by omega), bup_ne _ _ (by omega)]; exact a2 q hq
  · exact fun q hq => by rw [upd_ne _ _ (by omega), bup_ne _ _ (by omega)]; exact a3 q hq
  · exact fun q hq => by rw [upd_ne _ _ (by omega), bup_ne _ _ (by omega)]; exact a4 q hq
  · exact fun q hq => by rw [upd_ne _ _ (by omega), bup_ne _ _ (by omega)]; exact a5 q hq
theorem rW_f3 {I : MI} {w : Nat} {R : Nat → Int32} {x : Int32} (h : rW I w R) : rW (bup I w (upd (I w) 3 x)) w (upd R 6 x) := by
  unfold rW at h ⊢
  obtain ⟨h0, h1, h2, h3, h4, h5, h6, a0, a1, a2, a3, a4, a5⟩ := h
  refine ⟨?_, ?_, ?_, ?_, ?_, ?_, ?_, ?_, ?_, ?_, ?_, ?_, ?_⟩
  · exact by rw [upd_ne _ _ (by decide), bup_eq, upd_ne _ _ (by decide)]; exact h0
  · exact by rw [upd_ne _ _ (by decide), bup_eq, upd_ne _ _ (by decide)]; exact h1
  · exact by rw [upd_ne _ _ (by decide), bup_eq, upd_ne _ _ (by decide)]; exact h2
  · exact by rw [upd_ne _ _ (by decide), bup_eq, upd_ne _ _ (by decide)]; exact h3
  · exact by rw [upd_ne _ _ (by decide), bup_eq, upd_ne _ _ (by decide)]; exact h4
  · exact by rw [upd_ne _ _ (by decide), bup_eq, upd_ne _ _ (by decide)]; exact h5
  · exact by rw [upd_eq, bup_eq, upd_eq]
  · exact fun q hq => by rw [upd_ne _ _ (by omega), bup_ne _ _ (by omega)]; exact a0 q hq
  · exact fun q hq => by rw [upd_ne _ _ (by omega), bup_ne _ _ (by omega)]; exact a1 q hq
  · exact fun q hq => by rw [upd_ne _ _ (by omega), bup_ne _ _ (by omega)]; exact a2 q hq
  · exact fun q hq => by rw [upd_ne _ _ (by omega), bup_ne _ _ (by omega)]; exact a3 q hq
  · exact fun q hq => by rw [upd_ne _ _ (by omega), bup_ne _ _ (by omega)]; exact a4 q hq
  · exact fun q hq => by rw [upd_ne _ _ (by omega), bup_ne _ _ (by omega)]; exact a5 q hq
theorem rW_a1 {I : MI} {w k : Nat} {R : Nat → Int32} {x : Int32} (hk : k < 10) (h : rW I w R) : rW (bup I (w + 1) (upd (I (w + 1)) k x)) w (upd R (7 + k) x) := by
  unfold rW at h ⊢
  obtain ⟨h0, h1, h2, h3, h4, h5, h6, a0, a1, a2, a3, a4, a5⟩ := h
  refine ⟨?_, ?_, ?_, ?_, ?_, ?_, ?_, ?_, ?_, ?_, ?_, ?_, ?_⟩
  · exact by rw [upd_ne _ _ (by omega), bup_ne _ _ (by omega)]; exact h0
  · exact by rw [upd_ne _ _ (by omega), bup_ne _ _ (by omega)]; exact h1
  · exact by rw [upd_ne _ _ (by omega), bup_ne _ _ (by omega)]; exact h2
  · exact by rw [upd_ne _ _ (by omega), bup_ne _ _ (by omega)]; exact h3
  · exact by rw [upd_ne _ _ (by omega), bup_ne _ _ (by omega)]; exact h4
  · exact by rw [upd_ne _ _ (by omega), bup_ne _ _ (by omega)]; exact h5
  · exact by rw [upd_ne _ _ (by omega), bup_ne _ _ (by omega)]; exact h6
  · exact fun q hq => by
      rw [bup_eq]
      by_cases e : q = k
      · subst e; rw [upd_eq, upd_eq]
      · rw [upd_ne _ _ (by omega), upd_ne _ _ e]; exact a0 q hq
  · exact fun q hq => by rw [upd_ne _ _ (by omega), bup_ne _ _ (by omega)]; exact a1 q hq
  · exact fun q hq => by rw [upd_ne _ _ (by omega), bup_ne _ _ (by omega)]; exact a2 q hq
  · exact fun q hq => by rw [upd_ne _ _ (by omega), bup_ne _ _ (by omega)]; exact a3 q hq
  · exact fun q hq => by rw [upd_ne _ _ (by omega), bup_ne _ _ (by omega)]; exact a4 q hq
  · exact fun q hq => by rw [upd_ne _ _ (by omega), bup_ne _ _ (by omega)]; exact a5 q hq
theorem rW_a3 {I : MI} {w k : Nat} {R : Nat → Int32} {x : Int32} (hk : k < 6) (h : rW I w R) : rW (bup I (w + 3) (upd (I (w + 3)) k x)) w (upd R (17 + k) x) := by
  unfold rW at h ⊢
  obtain ⟨h0, h1, h2, h3, h4, h5, h6, a0, a1, a2, a3, a4, a5⟩ := h
  refine ⟨?_, ?_, ?_, ?_, ?_, ?_, ?_, ?_, ?_, ?_, ?_, ?_, ?_⟩
  · exact by rw [upd_ne _ _ (by omega), bup_ne _ _ (by omega)]; exact h0
  · exact by rw [upd_ne _ _ (by omega), bup_ne _ _ (by omega)]; exact h1
  · exact by rw [upd_ne _ _ (by omega), bup_ne _ _ (by omega)]; exact h2
  · exact by rw [upd_ne _ _ (by omega), bup_ne _ _ (by omega)]; exact h3
  · exact by rw [upd_ne _ _ (by omega), bup_ne _ _ (by omega)]; exact h4
  · exact by rw [upd_ne _ _ (by omega), bup_ne _ _ (by omega)]; exact h5
  · exact by rw [upd_ne _ _ (by omega), bup_ne _ _ (by omega)]; exact h6
  · exact fun q hq => by rw [upd_ne _ _ (by omega), bup_ne _ _ (by omega)]; exact a0 q hq
  · exact fun q hq => by
      rw [bup_eq]
      by_cases e : q = k
      · subst e; rw [upd_eq, upd_eq]
      · rw [upd_ne _ _ (by omega), upd_ne _ _ e]; exact a1 q hq
  · exact fun q hq => by rw [upd_ne _ _ (by omega), bup_ne _ _ (by omega)]; exact a2 q hq
  · exact fun q hq => by rw [upd_ne _ _ (by omega), bup_ne _ _ (by omega)]; exact a3 q hq
  · exact fun q hq => by rw [upd_ne _ _ (by omega), bup_ne _ _ (by omega)]; exact a4 q hq
  · exact fun q hq => by rw [upd_ne _ _ (by omega), bup_ne _ _ (by omega)]; exact a5 q hq
theorem rW_a7 {I : MI} {w k : Nat} {R : Nat → Int32} {x : Int32} (hk : k < 18) (h : rW I w R) : rW (bup I (w + 7) (upd (I (w + 7)) k x)) w (upd R (23 + k) x) := by
  unfold rW at h ⊢
  obtain ⟨h0, h1, h2, h3, h4, h5, h6, a0, a1, a2, a3, a4, a5⟩ := h
  refine ⟨?_, ?_, ?_, ?_, ?_, ?_, ?_, ?_, ?_, ?_, ?_, ?_, ?_⟩
  · exact by rw [upd_ne _ _ (by omega), bup_ne _ _ (by omega)]; exact h0
  · exact by rw [upd_ne _ _ (by omega), bup_ne _ _ (by omega)]; exact h1
  · exact by rw [upd_ne _ _ (by omega), bup_ne _ _ (by omega)]; exact h2
  · exact by rw [upd_ne _ _ (by omega), bup_ne _ _ (by omega)]; exact h3
  · exact by rw [upd_ne _ _ (by omega), bup_ne _ _ (by omega)]; exact h4
  · exact by rw [upd_ne _ _ (by omega), bup_ne _ _ (by omega)]; exact h5
  · exact by rw [upd_ne _ _ (by omega), bup_ne _ _ (by omega)]; exact h6
  · exact fun q hq => by rw [upd_ne _ _ (by omega), bup_ne _ _ (by omega)]; exact a0 q hq
  · exact fun q hq => by rw [upd_ne _ _ (by omega), bup_ne _ _ (by omega)]; exact a1 q hq
  · exact fun q hq => by
      rw [bup_eq]
      by_cases e : q = k
      · subst e; rw [upd_eq, upd_eq]
      · rw [upd_ne _ _ (by omega), upd_ne _ _ e]; exact a2 q hq
  · exact fun q hq => by rw [upd_ne _ _ (by omega), bup_ne _ _ (by omega)]; exact a3 q hq
  · exact fun q hq => by rw [upd_ne _ _ (by omega), bup_ne _ _ (by omega)]; exact a4 q hq
  · exact fun q hq => by rw [upd_ne _ _ (by omega), bup_ne _ _ (by omega)]; exact a5 q hq
theorem rW_a8 {I : MI} {w k : Nat} {R : Nat → Int32} {x : Int32} (hk : k < 18) (h : rW I w R) : rW (bup I (w + 8) (upd (I (w + 8)) k x)) w (upd R (41 + k) x) := by
  unfold rW at h ⊢
  obtain ⟨h0, h1, h2, h3, h4, h5, h6, a0, a1, a2, a3, a4, a5⟩ := h
  refine ⟨?_, ?_, ?_, ?_, ?_, ?_, ?_, ?_, ?_, ?_, ?_, ?_, ?_⟩
  · exact by rw [upd_ne _ _ (by omega), bup_ne _ _ (by omega)]; exact h0
  · exact by rw [upd_ne _ _ (by omega), bup_ne _ _ (by omega)]; exact h1
  · exact by rw [upd_ne _ _ (by omega), bup_ne _ _ (by omega)]; exact h2
  · exact by rw [upd_ne _ _ (by omega), bup_ne _ _ (by omega)]; exact h3
  · exact by rw [upd_ne _ _ (by omega), bup_ne _ _ (by omega)]; exact h4
  · exact by rw [upd_ne _ _ (by omega), bup_ne _ _ (by omega)]; exact h5
  · exact by rw [upd_ne _ _ (by omega), bup_ne _ _ (by omega)]; exact h6
  · exact fun q hq => by rw [upd_ne _ _ (by omega), bup_ne _ _ (by omega)]; exact a0 q hq
  · exact fun q hq => by rw [upd_ne _ _ (by omega), bup_ne _ _ (by omega)]; exact a1 q hq
  · exact fun q hq => by rw [upd_ne _ _ (by omega), bup_ne _ _ (by omega)]; exact a2 q hq
  · exact fun q hq => by
      rw [bup_eq]
      by_cases e : q = k
      · subst e; rw [upd_eq, upd_eq]
      · rw [upd_ne _ _ (by omega), upd_ne _ _ e]; exact a3 q hq
  · exact fun q hq => by rw [upd_ne _ _ (by omega), bup_ne _ _ (by omega)]; exact a4 q hq
  · exact fun q hq => by rw [upd_ne _ _ (by omega), bup_ne _ _ (by omega)]; exact a5 q hq
theorem rW_a9 {I : MI} {w k : Nat} {R : Nat → Int32} {x : Int32} (hk : k < 18) (h : rW I w R) : rW (bup I (w + 9) (upd (I (w + 9)) k x)) w (upd R (59 + k) x) := by
  unfold rW at h ⊢
  obtain ⟨h0, h1, h2, h3, h4, h5, h6, a0, a1, a2, a3, a4, a5⟩ := h
  refine ⟨?_, ?_, ?_, ?_, ?_, ?_, ?_, ?_, ?_, ?_, ?_, ?_, ?_⟩
  · exact by rw [upd_ne _ _ (by omega), bup_ne _ _ (by omega)]; exact h0
  · exact by rw [upd_ne _ _ (by omega), bup_ne _ _ (by omega)]; exact h1
  · exact by rw [upd_ne _ _ (by omega), bup_ne _ _ (by omega)]; exact h2
  · exact by rw [upd_ne _ _ (by omega), bup_ne _ _ (by omega)]; exact h3
  · exact by rw [upd_ne _ _ (by omega), bup_ne _ _ (by omega)]; exact h4
  · exact by rw [upd_ne _ _ (by omega), bup_ne _ _ (by omega)]; exact h5
  · exact by rw [upd_ne _ _ (by omega), bup_ne _ _ (by omega)]; exact h6
  · exact fun q hq => by rw [upd_ne _ _ (by omega), bup_ne _ _ (by omega)]; exact a0 q hq
  · exact fun q hq => by rw [upd_ne _ _ (by omega), bup_ne _ _ (by omega)]; exact a1 q hq
  · exact fun q hq => by rw [upd_ne _ _ (by omega), bup_ne _ _ (by omega)]; exact a2 q hq
  · exact fun q hq => by rw [upd_ne _ _ (by omega), bup_ne _ _ (by omega)]; exact a3 q hq
  · exact fun q hq => by
      rw [bup_eq]
      by_cases e : q = k
      · subst e; rw [upd_eq, upd_eq]
      · rw [upd_ne _ _ (by omega), upd_ne _ _ e]; exact a4 q hq
  · exact fun q hq => by rw [upd_ne _ _ (by omega), bup_ne _ _ (by omega)]; exact a5 q hq
theorem rW_a10 {I : MI} {w k : Nat} {R : Nat → Int32} {x : Int32} (hk : k < 18) (h : rW I w R) : rW (bup I (w + 10) (upd (I (w + 10)) k x)) w (upd R (77 + k) x) := by
  unfold rW at h ⊢
  obtain ⟨h0, h1, h2, h3, h4, h5, h6, a0, a1, a2, a3, a4, a5⟩ := h
  refine ⟨?_, ?_, ?_, ?_, ?_, ?_, ?_, ?_, ?_, ?_, ?_, ?_, ?_⟩
  · exact by rw [upd_ne _ _ (by omega), bup_ne _ _ (by omega)]; exact h0
  · exact by rw [upd_ne _ _ (by omega), bup_ne _ _ (by omega)]; exact h1
  · exact by rw [upd_ne _ _ (by omega), bup_ne _ _ (by omega)]; exact h2
  · exact by rw [upd_ne _ _ (by omega), bup_ne _ _ (by omega)]; exact h3
  · exact by rw [upd_ne _ _ (by omega), bup_ne _ _ (by omega)]; exact h4
  · exact by rw [upd_ne _ _ (by omega), bup_ne _ _ (by omega)]; exact h5
  · exact by rw [upd_ne _ _ (by omega), bup_ne _ _ (by omega)]; exact h6
  · exact fun q hq => by rw [upd_ne _ _ (by omega), bup_ne _ _ (by omega)]; exact a0 q hq
  · exact fun q hq => by rw [upd_ne _ _ (by omega), bup_ne _ _ (by omega)]; exact a1 q hq
  · exact fun q hq => by rw [upd_ne _ _ (by omega), bup_ne _ _ (by omega)]; exact a2 q hq
  · exact fun q hq => by rw [upd_ne _ _ (by omega), bup_ne _ _ (by omega)]; exact a3 q hq
  · exact fun q hq => by rw [upd_ne _ _ (by omega), bup_ne _ _ (by omega)]; exact a4 q hq
  · exact fun q hq => by
      rw [bup_eq]
      by_cases e : q = k
      · subst e; rw [upd_eq, upd_eq]
      · rw [upd_ne _ _ (by omega), upd_ne _ _ e]; exact a5 q hq
theorem rS_f {I : MI} {w f : Nat} {x np na : Int32} {wi pe ra ho : Nat → Int32} (h7 : f ≠ 7) (h8 : f ≠ 8) (h : rS I w np na wi pe ra ho) : rS (bup I w (upd (I w) f x)) w np na wi pe ra ho := by
  unfold rS at h ⊢
  obtain ⟨b1, b2, b3, b4, b5, b6⟩ := h
  rw [bup_eq, upd_ne _ _ (Ne.symm h7), upd_ne _ _ (Ne.symm h8), bup_ne _ _ (by omega), bup_ne _ _ (by omega), bup_ne _ _ (by omega), bup_ne _ _ (by omega)]
  exact ⟨b1, b2, b3, b4, b5, b6⟩
theorem rS_a {I : MI} {w j : Nat} {g : Nat → Int32} {np na : Int32} {wi pe ra ho : Nat → Int32} (hj : j ≠ 0 ∧ j ≠ 2 ∧ j ≠ 4 ∧ j ≠ 5 ∧ j ≠ 6) (h : rS I w np na wi pe ra ho) : rS (bup I (w + j) g) w np na wi pe ra ho := by
  unfold rS at h ⊢
  rw [bup_ne _ _ (by omega), bup_ne _ _ (by omega), bup_ne _ _ (by omega), bup_ne _ _ (by omega), bup_ne _ _ (by omega)]
  exact h
theorem bW_f {I : MI} {w f np na : Nat} {x : Int32} (hf : f ≠ 7 ∧ f ≠ 8 ∧ f ≠ 4 ∧ f ≠ 6) (h : bW I w np na) : bW (bup I w (upd (I w) f x)) w np na := by
  unfold bW at h ⊢
  rw [bup_eq, upd_ne _ _ (Ne.symm hf.1), upd_ne _ _ (Ne.symm hf.2.1), upd_ne _ _ (Ne.symm hf.2.2.1), upd_ne _ _ (Ne.symm hf.2.2.2), bup_ne _ _ (by omega), bup_ne _ _ (by omega), bup_ne _ _ (by omega), bup_ne _ _ (by omega), bup_ne _ _ (by omega), bup_ne _ _ (by omega)]
  exact h
theorem bW_f4 {I : MI} {w np na q : Nat} (hq : q < 24) (h : bW I w np na) : bW (bup I w (upd (I w) 4 (nn q))) w np na := by
  unfold bW at h ⊢
  rw [bup_eq, upd_ne _ _ (by decide), upd_ne _ _ (by decide), upd_eq, upd_ne _ _ (by decide), bup_ne _ _ (by omega), bup_ne _ _ (by omega), bup_ne _ _ (by omega), bup_ne _ _ (by omega), bup_ne _ _ (by omega), bup_ne _ _ (by omega)]
  obtain ⟨b1, b2, b3, b4, b5, b6⟩ := h
  exact ⟨b1, b2, b3, b4, ⟨q, hq, rfl⟩, b6⟩
theorem bW_f6 {I : MI} {w np na q : Nat} (hq : q ≤ 150) (h : bW I w np na) : bW (bup I w (upd (I w) 6 (nn q))) w np na := by
  unfold bW at h ⊢
  rw [bup_eq, upd_ne _ _ (by decide), upd_ne _ _ (by decide), upd_ne _ _ (by decide), upd_eq, bup_ne _ _ (by omega), bup_ne _ _ (by omega), bup_ne _ _ (by omega), bup_ne _ _ (by omega), bup_ne _ _ (by omega), bup_ne _ _ (by omega)]
  obtain ⟨b1, b2, b3, b4, b5, b6, b7⟩ := h
  exact ⟨b1, b2, b3, b4, b5, ⟨q, hq, rfl⟩, b7⟩
theorem bW_a {I : MI} {w j np na : Nat} {g : Nat → Int32} (hj : j ≠ 0 ∧ j ≠ 3 ∧ j ≠ 4 ∧ j ≠ 6 ∧ j ≠ 7 ∧ j ≠ 8 ∧ j ≠ 10) (h : bW I w np na) : bW (bup I (w + j) g) w np na := by
  unfold bW at h ⊢
  rw [bup_ne _ _ (by omega), bup_ne _ _ (by omega), bup_ne _ _ (by omega), bup_ne _ _ (by omega), bup_ne _ _ (by omega), bup_ne _ _ (by omega), bup_ne _ _ (by omega)]
  exact h
theorem upd_all {f : Nat → Int32} {n k : Nat} {x : Int32} {P : Int32 → Prop} (h : ∀ a, a < n → P (f a)) (hx : P x) : ∀ a, a < n → P (upd f k x a) := by
  intro a ha
  by_cases e : a = k
  · subst e; rw [upd_eq]; exact hx
  · rw [upd_ne _ _ e]; exact h a ha
theorem bW_a3 {I : MI} {w k np na q : Nat} (hq : q ≤ 9999) (h : bW I w np na) : bW (bup I (w + 3) (upd (I (w + 3)) k (nn q))) w np na := by
  unfold bW at h ⊢
  rw [bup_ne I (a := w + 3) (b := w) _ (by omega), bup_ne I (a := w + 3) (b := w + 4) _ (by omega), bup_ne I (a := w + 3) (b := w + 6) _ (by omega), bup_ne I (a := w + 3) (b := w + 7) _ (by omega), bup_ne I (a := w + 3) (b := w + 8) _ (by omega), bup_ne I (a := w + 3) (b := w + 10) _ (by omega), bup_eq]
  obtain ⟨b1, b2, b3, b4, b5, b6, b7, b8, b9, b10, b11, b12⟩ := h
  exact ⟨b1, b2, b3, b4, b5, b6, b7, b8, b9, b10, b11, upd_all (P := fun y => ∃ q, q ≤ 9999 ∧ y = nn q) b12 ⟨q, hq, rfl⟩⟩
theorem bW_a7 {I : MI} {w k np na q : Nat} (hq : q < 10) (h : bW I w np na) : bW (bup I (w + 7) (upd (I (w + 7)) k (nn q))) w np na := by
  unfold bW at h ⊢
  rw [bup_ne I (a := w + 7) (b := w) _ (by omega), bup_ne I (a := w + 7) (b := w + 4) _ (by omega), bup_ne I (a := w + 7) (b := w + 6) _ (by omega), bup_eq, bup_ne I (a := w + 7) (b := w + 8) _ (by omega), bup_ne I (a := w + 7) (b := w + 10) _ (by omega), bup_ne I (a := w + 7) (b := w + 3) _ (by omega)]
  obtain ⟨b1, b2, b3, b4, b5, b6, b7, b8, b9, b10, b11, b12⟩ := h
  exact ⟨b1, b2, b3, b4, b5, b6, b7, b8, upd_all (P := fun y => ∃ q, q < 10 ∧ y = nn q) b9 ⟨q, hq, rfl⟩, b10, b11, b12⟩
theorem bW_a8 {I : MI} {w k np na : Nat} {x : Int32} (hx : x = 0 ∨ x = 1) (h : bW I w np na) : bW (bup I (w + 8) (upd (I (w + 8)) k x)) w np na := by
  unfold bW at h ⊢
  rw [bup_ne I (a := w + 8) (b := w) _ (by omega), bup_ne I (a := w + 8) (b := w + 4) _ (by omega), bup_ne I (a := w + 8) (b := w + 6) _ (by omega), bup_ne I (a := w + 8) (b := w + 7) _ (by omega), bup_eq, bup_ne I (a := w + 8) (b := w + 10) _ (by omega), bup_ne I (a := w + 8) (b := w + 3) _ (by omega)]
  obtain ⟨b1, b2, b3, b4, b5, b6, b7, b8, b9, b10, b11, b12⟩ := h
  exact ⟨b1, b2, b3, b4, b5, b6, b7, b8, b9, upd_all (P := fun y => y = 0 ∨ y = 1) b10 hx, b11, b12⟩
theorem bW_a10 {I : MI} {w k np na : Nat} {x : Int32} (hx : x = 0 ∨ x = 1) (h : bW I w np na) : bW (bup I (w + 10) (upd (I (w + 10)) k x)) w np na := by
  unfold bW at h ⊢
  rw [bup_ne I (a := w + 10) (b := w) _ (by omega), bup_ne I (a := w + 10) (b := w + 4) _ (by omega), bup_ne I (a := w + 10) (b := w + 6) _ (by omega), bup_ne I (a := w + 10) (b := w + 7) _ (by omega), bup_ne I (a := w + 10) (b := w + 8) _ (by omega), bup_eq, bup_ne I (a := w + 10) (b := w + 3) _ (by omega)]
  obtain ⟨b1, b2, b3, b4, b5, b6, b7, b8, b9, b10, b11, b12⟩ := h
  exact ⟨b1, b2, b3, b4, b5, b6, b7, b8, b9, b10, upd_all (P := fun y => y = 0 ∨ y = 1) b11 hx, b12⟩
theorem rl_f {I I1 J J1 : MI} (l m f : List Nat) (hr : Rl I J) (hu : UI l I I1) (hv : UJ m f J J1) (ht : UT I I1) (h02 : I1 0 2 = I 0 2) (h08 : I1 0 8 = I 0 8) (h09 : I1 0 9 = 0) (h3 : J1 207 3 = 0) (n1 : bWor I1 2 J1) (n5 : bDia I1 23 2 J1)
    (hd : (noneIn l [14, 16, 17, 18, 19, 21, 22, 25, 26, 27, 28, 29, 30, 31, 32, 33, 34, 35, 36, 37, 38, 39, 40, 41, 42, 43, 44, 45, 46, 93, 106, 110, 122, 206] && (noneIn l (List.range' 48 45) && (noneIn (207 :: m) [215, 218, 219, 220, 221, 222, 223, 224, 226, 228, 231, 232, 235, 236, 238, 239, 240, 241, 242, 243, 244, 245, 246, 248, 250, 216, 253, 217] && noneIn f [36, 40, 44, 49, 53, 57, 61, 63, 67, 70, 14, 34, 35, 75, 5]))) = true) : Rl I1 J1 := by
  obtain ⟨d1, hd⟩ := and_mp hd
  obtain ⟨d2, hd⟩ := and_mp hd
  obtain ⟨d3, d4⟩ := and_mp hd
  have sub : ∀ {l : List Nat} (r s : List Nat), noneIn l r = true → s.all (fun c => memN c r) = true → noneIn l s = true := by
    intro l r s h1 h2
    induction s with
    | nil => rfl
    | cons a s ih =>
      rw [List.all_cons] at h2
      obtain ⟨e1, e2⟩ := and_mp h2
      show (!(memN a l) && noneIn l s) = true
      rw [noneIn_at h1 a (memN_iff.mp e1), ih e2]
      rfl
  obtain ⟨n, c, hn, -, e8, -⟩ := id hr.2.2.1
  refine rl_of hr hu hv ht h02 (Or.inr n1) (Or.inl ?_) (Or.inl ?_) (Or.inl ?_) (Or.inr n5) (Or.inl ?_) (Or.inl ?_) (Or.inl ?_) (Or.inl ?_) (Or.inl ?_) (Or.inl ?_) (Or.inl ?_) (Or.inl ?_) (Or.inl ?_) (Or.inl ?_) (Or.inl ?_) (Or.inl ?_) (Or.inr (pst_0 hn (h08.trans e8) h09 h3)) (Or.inl ?_) (Or.inl ?_)
  all_goals simp only [Bool.and_eq_true]
  · exact ⟨sub _ _ d1 rfl, sub _ _ d3 rfl⟩
  · exact ⟨sub _ _ d1 rfl, sub _ _ d3 rfl⟩
  iterate 6 exact ⟨⟨sub _ _ d1 rfl, sub _ _ d3 rfl⟩, sub _ _ d4 rfl⟩
  iterate 2 exact ⟨sub _ _ d1 rfl, sub _ _ d3 rfl⟩
  iterate 5 exact ⟨⟨sub _ _ d1 rfl, sub _ _ d3 rfl⟩, sub _ _ d4 rfl⟩
  · exact ⟨⟨d2, sub _ _ d3 rfl⟩, sub _ _ d4 rfl⟩
  · exact ⟨⟨sub _ _ d1 rfl, sub _ _ d3 rfl⟩, sub _ _ d4 rfl⟩
theorem c_state (x : Int32) : Call (F_A_state x) (F_R_state x) := by
  refine call_of fun I J hr => ?_
  obtain ⟨⟨k1, -, -, -, k5, -⟩, -⟩ := id hr
  obtain ⟨r1, r2, np, na, r3⟩ := k1
  have e2 : J 208 2 = I 2 0 := r1.2.2.1
  unfold F_A_state F_R_state F_A_forget
  have i2 : inR (2 : Int32) 95 = true := rfl
  have t2 : (2 : Int32).toNatClampNeg = 2 := rfl
  simp (decide := true) only [ok_bn, ok_wr, ok_rd, ok_ld, ok_sr, ok_rt, i2, t2, bup_eq, bup_ne, upd_eq, upd_ne, true_and]
  refine ⟨e2, rl_f [0, 2] [208] [0, 3] hr (ui_bup (ui_bup (ui_refl _ _) rfl) rfl) (uj_fld (uj_bup (uj_fld (uj_refl _ _ _) rfl) rfl (by decide)) rfl) (ut_bup (ut_bup (ut_refl _) rfl) rfl) rfl rfl rfl rfl ?_ ?_ rfl⟩
  · refine ⟨?_, ?_, np, na, ?_⟩
    · exact k_rW (fun c h1 h2 => bup_ne _ _ (by omega)) (rW_f0 r1)
    · exact k_rS (fun c h1 h2 => bup_ne _ _ (by omega)) (rS_f (by decide) (by decide) r2)
    · exact k_bW (fun c h1 h2 => bup_ne _ _ (by omega)) (bW_f (by decide) r3)
  · exact k_Dia (fun c h1 h2 => (bup_ne _ _ (by omega)).trans (bup_ne _ _ (by omega))) rfl rfl rfl rfl k5
end WUP
