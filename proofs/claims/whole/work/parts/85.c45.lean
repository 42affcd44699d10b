/-! what a stock's blocks see of the reference -/
section SC45
def EqD (J J1 : MI) : Prop := ∀ a k, dm a k < 2079 → J1 a k = J a k
theorem eqf {J J1 : MI} (h : EqD J J1) {f : Nat} (hf : f ∈ dmF) : J1 207 f = J 207 f := by
  refine h 207 f ?_
  have q := of_decide_eq_true (List.all_eq_true.mp cell_fld f hf)
  have e : dm 207 f = fpos dmF f 95 := rfl
  rw [e]
  have := q.2
  omega
theorem d_208 {J J1 : MI} (h : EqD J J1) {k : Nat} (hk : k < 95) : J1 208 k = J 208 k := by
  have q := dm_at (a := 208) (n := 95) (b := 0) (s := 1) (by decide) hk
  exact h 208 k (by rw [q.1]; exact q.2)
theorem d_242 {J J1 : MI} (h : EqD J J1) {k : Nat} (hk : k < 2) : J1 242 k = J 242 k := by
  have q := dm_at (a := 242) (n := 2) (b := 108) (s := 1) (by decide) hk
  exact h 242 k (by rw [q.1]; exact q.2)
theorem d_212 {J J1 : MI} (h : EqD J J1) {k : Nat} (hk : k < 18) : J1 212 k = J 212 k := by
  have q := dm_at (a := 212) (n := 18) (b := 110) (s := 3) (by decide) hk
  exact h 212 k (by rw [q.1]; exact q.2)
theorem d_213 {J J1 : MI} (h : EqD J J1) {k : Nat} (hk : k < 18) : J1 213 k = J 213 k := by
  have q := dm_at (a := 213) (n := 18) (b := 111) (s := 3) (by decide) hk
  exact h 213 k (by rw [q.1]; exact q.2)
theorem d_214 {J J1 : MI} (h : EqD J J1) {k : Nat} (hk : k < 18) : J1 214 k = J 214 k := by
  have q := dm_at (a := 214) (n := 18) (b := 112) (s := 3) (by decide) hk
  exact h 214 k (by rw [q.1]; exact q.2)
theorem d_211 {J J1 : MI} (h : EqD J J1) {k : Nat} (hk : k < 6) : J1 211 k = J 211 k := by
  have q := dm_at (a := 211) (n := 6) (b := 164) (s := 3) (by decide) hk
  exact h 211 k (by rw [q.1]; exact q.2)
theorem d_241 {J J1 : MI} (h : EqD J J1) {k : Nat} (hk : k < 6) : J1 241 k = J 241 k := by
  have q := dm_at (a := 241) (n := 6) (b := 165) (s := 3) (by decide) hk
  exact h 241 k (by rw [q.1]; exact q.2)
theorem d_250 {J J1 : MI} (h : EqD J J1) {k : Nat} (hk : k < 6) : J1 250 k = J 250 k := by
  have q := dm_at (a := 250) (n := 6) (b := 166) (s := 3) (by decide) hk
  exact h 250 k (by rw [q.1]; exact q.2)
theorem d_228 {J J1 : MI} (h : EqD J J1) {k : Nat} (hk : k < 10) : J1 228 k = J 228 k := by
  have q := dm_at (a := 228) (n := 10) (b := 182) (s := 9) (by decide) hk
  exact h 228 k (by rw [q.1]; exact q.2)
theorem d_231 {J J1 : MI} (h : EqD J J1) {k : Nat} (hk : k < 10) : J1 231 k = J 231 k := by
  have q := dm_at (a := 231) (n := 10) (b := 183) (s := 9) (by decide) hk
  exact h 231 k (by rw [q.1]; exact q.2)
theorem d_232 {J J1 : MI} (h : EqD J J1) {k : Nat} (hk : k < 10) : J1 232 k = J 232 k := by
  have q := dm_at (a := 232) (n := 10) (b := 184) (s := 9) (by decide) hk
  exact h 232 k (by rw [q.1]; exact q.2)
theorem d_235 {J J1 : MI} (h : EqD J J1) {k : Nat} (hk : k < 10) : J1 235 k = J 235 k := by
  have q := dm_at (a := 235) (n := 10) (b := 185) (s := 9) (by decide) hk
  exact h 235 k (by rw [q.1]; exact q.2)
theorem d_236 {J J1 : MI} (h : EqD J J1) {k : Nat} (hk : k < 10) : J1 236 k = J 236 k := by
  have q := dm_at (a := 236) (n := 10) (b := 186) (s := 9) (by decide) hk
  exact h 236 k (by rw [q.1]; exact q.2)
theorem d_238 {J J1 : MI} (h : EqD J J1) {k : Nat} (hk : k < 10) : J1 238 k = J 238 k := by
  have q := dm_at (a := 238) (n := 10) (b := 187) (s := 9) (by decide) hk
  exact h 238 k (by rw [q.1]; exact q.2)
theorem d_239 {J J1 : MI} (h : EqD J J1) {k : Nat} (hk : k < 10) : J1 239 k = J 239 k := by
  have q := dm_at (a := 239) (n := 10) (b := 188) (s := 9) (by decide) hk
  exact h 239 k (by rw [q.1]; exact q.2)
theorem d_240 {J J1 : MI} (h : EqD J J1) {k : Nat} (hk : k < 10) : J1 240 k = J 240 k := by
  have q := dm_at (a := 240) (n := 10) (b := 189) (s := 9) (by decide) hk
  exact h 240 k (by rw [q.1]; exact q.2)
theorem d_248 {J J1 : MI} (h : EqD J J1) {k : Nat} (hk : k < 10) : J1 248 k = J 248 k := by
  have q := dm_at (a := 248) (n := 10) (b := 190) (s := 9) (by decide) hk
  exact h 248 k (by rw [q.1]; exact q.2)
theorem d_244 {J J1 : MI} (h : EqD J J1) {k : Nat} (hk : k < 8) : J1 244 k = J 244 k := by
  have q := dm_at (a := 244) (n := 8) (b := 272) (s := 3) (by decide) hk
  exact h 244 k (by rw [q.1]; exact q.2)
theorem d_245 {J J1 : MI} (h : EqD J J1) {k : Nat} (hk : k < 8) : J1 245 k = J 245 k := by
  have q := dm_at (a := 245) (n := 8) (b := 273) (s := 3) (by decide) hk
  exact h 245 k (by rw [q.1]; exact q.2)
theorem d_246 {J J1 : MI} (h : EqD J J1) {k : Nat} (hk : k < 8) : J1 246 k = J 246 k := by
  have q := dm_at (a := 246) (n := 8) (b := 274) (s := 3) (by decide) hk
  exact h 246 k (by rw [q.1]; exact q.2)
theorem d_243 {J J1 : MI} (h : EqD J J1) {k : Nat} (hk : k < 24) : J1 243 k = J 243 k := by
  have q := dm_at (a := 243) (n := 24) (b := 296) (s := 1) (by decide) hk
  exact h 243 k (by rw [q.1]; exact q.2)
theorem d_226 {J J1 : MI} (h : EqD J J1) {k : Nat} (hk : k < 64) : J1 226 k = J 226 k := by
  have q := dm_at (a := 226) (n := 64) (b := 320) (s := 1) (by decide) hk
  exact h 226 k (by rw [q.1]; exact q.2)
theorem d_227 {J J1 : MI} (h : EqD J J1) {k : Nat} (hk : k < 80) : J1 227 k = J 227 k := by
  have q := dm_at (a := 227) (n := 80) (b := 384) (s := 1) (by decide) hk
  exact h 227 k (by rw [q.1]; exact q.2)
theorem d_215 {J J1 : MI} (h : EqD J J1) {k : Nat} (hk : k < 750) : J1 215 k = J 215 k := by
  have q := dm_at (a := 215) (n := 750) (b := 464) (s := 1) (by decide) hk
  exact h 215 k (by rw [q.1]; exact q.2)
theorem d_218 {J J1 : MI} (h : EqD J J1) {k : Nat} (hk : k < 1) : J1 218 k = J 218 k := by
  have q := dm_at (a := 218) (n := 1) (b := 1214) (s := 1) (by decide) hk
  exact h 218 k (by rw [q.1]; exact q.2)
theorem d_219 {J J1 : MI} (h : EqD J J1) {k : Nat} (hk : k < 16) : J1 219 k = J 219 k := by
  have q := dm_at (a := 219) (n := 16) (b := 1215) (s := 4) (by decide) hk
  exact h 219 k (by rw [q.1]; exact q.2)
theorem d_220 {J J1 : MI} (h : EqD J J1) {k : Nat} (hk : k < 16) : J1 220 k = J 220 k := by
  have q := dm_at (a := 220) (n := 16) (b := 1216) (s := 4) (by decide) hk
  exact h 220 k (by rw [q.1]; exact q.2)
theorem d_221 {J J1 : MI} (h : EqD J J1) {k : Nat} (hk : k < 16) : J1 221 k = J 221 k := by
  have q := dm_at (a := 221) (n := 16) (b := 1217) (s := 4) (by decide) hk
  exact h 221 k (by rw [q.1]; exact q.2)
theorem d_222 {J J1 : MI} (h : EqD J J1) {k : Nat} (hk : k < 16) : J1 222 k = J 222 k := by
  have q := dm_at (a := 222) (n := 16) (b := 1218) (s := 4) (by decide) hk
  exact h 222 k (by rw [q.1]; exact q.2)
theorem d_223 {J J1 : MI} (h : EqD J J1) {k : Nat} (hk : k < 400) : J1 223 k = J 223 k := by
  have q := dm_at (a := 223) (n := 400) (b := 1279) (s := 2) (by decide) hk
  exact h 223 k (by rw [q.1]; exact q.2)
theorem d_224 {J J1 : MI} (h : EqD J J1) {k : Nat} (hk : k < 400) : J1 224 k = J 224 k := by
  have q := dm_at (a := 224) (n := 400) (b := 1280) (s := 2) (by decide) hk
  exact h 224 k (by rw [q.1]; exact q.2)
theorem tyRun_cg {op ar op1 ar1 : Nat → Int32} : ∀ (n k : Nat) (st : List Nat), (∀ j, k ≤ j → j < k + n → op1 j = op j ∧ ar1 j = ar j) → tyRun op1 ar1 k n st = tyRun op ar k n st := by
  intro n
  induction n with
  | zero => intro k st _; rfl
  | succ n ih =>
    intro k st h
    obtain ⟨h1, h2⟩ := h k (Nat.le_refl _) (by omega)
    unfold tyRun
    rw [h1, h2]
    cases tyStep (op k) (ar k) st with
    | none => rfl
    | some s => exact ih (k + 1) s (fun j q1 q2 => h j (by omega) (by omega))
theorem q_Wor {I J J1 : MI} {w : Nat} (h : EqD J J1) (k : bWor I w J) : bWor I w J1 := by
  obtain ⟨a, ⟨b1, b2, b3, b4, b5, b6⟩, c⟩ := k
  exact ⟨rW_cg (fun k hk => d_208 h hk) a, ⟨(eqf h (by decide)).trans b1, (eqf h (by decide)).trans b2, fun k hk => (d_211 h hk).trans (b3 k hk), fun k hk => (d_212 h hk).trans (b4 k hk), fun k hk => (d_213 h hk).trans (b5 k hk), fun k hk => (d_214 h hk).trans (b6 k hk)⟩, c⟩
theorem q_Bk {c : Nat → Int32} {J J1 : MI} (h : EqD J J1) (k : bBk c (J 215)) : bBk c (J1 215) := fun i hi => (d_215 h hi).trans (k i hi)
theorem q_Law {I J J1 : MI} {l : Nat} (h : EqD J J1) (k : bLaw I l J) : bLaw I l J1 := by
  obtain ⟨n, hn, c1, c2, c3, hL⟩ := k
  refine ⟨n, hn, c1, (d_218 h (by decide)).trans c2, c3, fun i hi => ?_⟩
  obtain ⟨⟨v, v1, v2, v3⟩, f, m, t, q1, q2, q3, q4, q5, q6, q7, q8, q9, qc, ⟨z, z1, z2⟩, qt⟩ := hL i hi
  refine ⟨⟨v, v1, v2, (d_219 h (by omega)).trans v3⟩, f, m, t, q1, q2, q3, q4, (d_220 h (by omega)).trans q5, q6, (d_221 h (by omega)).trans q7, q8, (d_222 h (by omega)).trans q9, fun k k1 k2 => ?_, ⟨z, z1, ?_⟩, fun hmt => ?_⟩
  · rw [d_223 h (by omega), d_224 h (by omega)]; exact qc k k1 k2
  · rw [tyRun_cg (op := J 223) (ar := J 224) _ _ _ (fun j j1 j2 => ⟨d_223 h (by omega), d_224 h (by omega)⟩)]; exact z2
  · rw [tyRun_cg (op := J 223) (ar := J 224) _ _ _ (fun j j1 j2 => ⟨d_223 h (by omega), d_224 h (by omega)⟩)]; exact qt hmt
theorem q_Sha {I J J1 : MI} {t : Nat} (h : EqD J J1) (k : bSha I t J) : bSha I t J1 := by
  obtain ⟨n, hn, c1, c2, hs⟩ := k
  refine ⟨n, hn, c1, (eqf h (by decide)).trans c2, fun i hi => ?_⟩
  obtain ⟨a, b, c, s, d, e, f⟩ := hs i hi
  exact ⟨(d_226 h (by omega)).trans a, (d_226 h (by omega)).trans b, (d_226 h (by omega)).trans c, s, d, e, (d_226 h (by omega)).trans f⟩
theorem q_Dia {I J J1 : MI} {t w : Nat} (h : EqD J J1) (k : bDia I t w J) : bDia I t w J1 := by
  obtain ⟨n, hn, c1, c2, np, na, c3, c4, c5, c6, hd⟩ := k
  refine ⟨n, hn, c1, (eqf h (by decide)).trans c2, np, na, c3, c4, c5, c6, fun i hi => ?_⟩
  obtain ⟨a, b, c, d, e⟩ := hd i hi
  refine ⟨(d_227 h (by omega)).trans a, (d_227 h (by omega)).trans b, (d_227 h (by omega)).trans c, (d_227 h (by omega)).trans d, ?_⟩
  rw [d_227 h (by omega)]; exact e
theorem q_Way {I J J1 : MI} {t : Nat} (h : EqD J J1) (k : bWay I t J) : bWay I t J1 := by
  obtain ⟨n, hn, c1, c2, f, g, h1, h2⟩ := k
  refine ⟨n, hn, c1, (eqf h (by decide)).trans c2, f, g, h1, fun s hs => ?_⟩
  obtain ⟨m, a, b, c⟩ := h2 s hs
  exact ⟨m, a, (d_228 h hs).trans b, c⟩
theorem q_Sig {I J J1 : MI} {t : Nat} (h : EqD J J1) (k : bSig I t J) : bSig I t J1 := by
  obtain ⟨n, hn, c1, c2, hs⟩ := k
  refine ⟨n, hn, c1, (eqf h (by decide)).trans c2, fun i hi => ?_⟩
  obtain ⟨⟨m, a, b, c⟩, s, d, e, f⟩ := hs i hi
  exact ⟨⟨m, a, b, (d_231 h (by omega)).trans c⟩, s, d, e, (d_232 h (by omega)).trans f⟩
theorem q_Pai {I J J1 : MI} {t : Nat} (h : EqD J J1) (k : bPai I t J) : bPai I t J1 := by
  obtain ⟨n, hn, c1, c2, f, g, o, h1, h2, h3⟩ := k
  refine ⟨n, hn, c1, (eqf h (by decide)).trans c2, f, g, o, h1, fun s hs => ?_, fun s hs => ?_⟩
  · obtain ⟨m, a, b, c⟩ := h2 s hs
    exact ⟨m, a, (d_235 h hs).trans b, c⟩
  · obtain ⟨m, a, b, c⟩ := h3 s hs
    exact ⟨m, a, (d_236 h hs).trans b, c⟩
theorem q_Wrd {I J J1 : MI} {t : Nat} (h : EqD J J1) (k : bWrd I t J) : bWrd I t J1 := by
  obtain ⟨n, hn, c1, c2, hs⟩ := k
  refine ⟨n, hn, c1, (eqf h (by decide)).trans c2, fun i hi => ?_⟩
  obtain ⟨⟨m, a, b, c⟩, ⟨m2, a2, b2, c2⟩, s, d, e, f⟩ := hs i hi
  exact ⟨⟨m, a, b, (d_238 h (by omega)).trans c⟩, ⟨m2, a2, b2, (d_239 h (by omega)).trans c2⟩, s, d, e, (d_240 h (by omega)).trans f⟩
theorem q_Vot {I J J1 : MI} {t : Nat} (h : EqD J J1) (k : bVot I t J) : bVot I t J1 := by
  obtain ⟨n, hn, c1, c2, hs⟩ := k
  refine ⟨n, hn, c1, (eqf h (by decide)).trans c2, fun i hi => ?_⟩
  obtain ⟨m, a, b, c⟩ := hs i hi
  exact ⟨m, a, b, (d_241 h (by omega)).trans c⟩
theorem q_Not {I J J1 : MI} {t j : Nat} (hj : j < 2) (h : EqD J J1) (k : bNot I t j J) : bNot I t j J1 := by
  obtain ⟨n, hn, c1, c2, hs⟩ := k
  refine ⟨n, hn, c1, (d_242 h hj).trans c2, fun i hi => ?_⟩
  obtain ⟨m, a, b, c⟩ := hs i hi
  exact ⟨m, a, b, (d_243 h (by omega)).trans c⟩
theorem q_Boo {I J J1 : MI} {t : Nat} (h : EqD J J1) (k : bBoo I t J) : bBoo I t J1 := by
  obtain ⟨n, hn, c1, c2, hs⟩ := k
  refine ⟨n, hn, c1, (eqf h (by decide)).trans c2, fun i hi => ?_⟩
  obtain ⟨m, a, b, c⟩ := hs i hi
  exact ⟨m, a, b, (d_244 h (by omega)).trans c⟩
theorem q_Bed {I J J1 : MI} {t : Nat} (h : EqD J J1) (k : bBed I t J) : bBed I t J1 := by
  obtain ⟨n, hn, c1, c2, hs⟩ := k
  refine ⟨n, hn, c1, (eqf h (by decide)).trans c2, fun i hi => ?_⟩
  obtain ⟨⟨m, a, b, c⟩, s, d, e, f⟩ := hs i hi
  exact ⟨⟨m, a, b, (d_245 h (by omega)).trans c⟩, s, d, e, (d_246 h (by omega)).trans f⟩
theorem q_Box {I J J1 : MI} {t : Nat} (h : EqD J J1) (k : bBox I t J) : bBox I t J1 := by
  obtain ⟨n, hn, c1, c2, hs⟩ := k
  refine ⟨n, hn, c1, (eqf h (by decide)).trans c2, fun i hi => ?_⟩
  obtain ⟨m, a, b, c⟩ := hs i hi
  exact ⟨m, a, b, (d_248 h (by omega)).trans c⟩
theorem q_Loa {I J J1 : MI} {t : Nat} (h : EqD J J1) (k : bLoa I t J) : bLoa I t J1 := by
  obtain ⟨n, hn, c1, c2, c3, hs⟩ := k
  exact ⟨n, hn, c1, (eqf h (by decide)).trans c2, c3, fun i hi => (d_250 h hi).trans (hs i hi)⟩
theorem q_Stk {I J J1 : MI} {s : Nat} (h : EqD J J1) (k : bStk I s J) : bStk I s J1 := by
  obtain ⟨k1, k2, k3, k4, k5, k6, k7, k8, k9, k10, k11, k12, k13, k14, k15, k16⟩ := k
  exact ⟨q_Wor h k1, q_Bk h k2, q_Law h k3, q_Sha h k4, q_Dia h k5, q_Way h k6, q_Sig h k7, q_Pai h k8, q_Wrd h k9, q_Vot h k10, q_Not (by decide) h k11, q_Not (by decide) h k12, q_Boo h k13, q_Bed h k14, q_Box h k15, q_Loa h k16⟩
end SC45
