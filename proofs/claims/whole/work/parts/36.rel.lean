/-! how the class's ints (I) and the reference's (J) belong together -/
section REL
/-- a world and a row -/
def rW (I : MI) (w : Nat) (R : Nat → Int32) : Prop := R 0 = I w 5 ∧ R 1 = I w 4 ∧ R 2 = I w 0 ∧ R 3 = I w 6 ∧ R 4 = I w 1 ∧ R 5 = I w 2 ∧ R 6 = I w 3 ∧ (∀ k, k < 10 → R (7 + k) = I (w + 1) k) ∧ (∀ k, k < 6 → R (17 + k) = I (w + 3) k) ∧ (∀ k, k < 18 → R (23 + k) = I (w + 7) k) ∧ (∀ k, k < 18 → R (41 + k) = I (w + 8) k) ∧ (∀ k, k < 18 → R (59 + k) = I (w + 9) k) ∧ (∀ k, k < 18 → R (77 + k) = I (w + 10) k)
/-- what does not change in hours -/
def rS (I : MI) (w : Nat) (np na : Int32) (wi pe ra ho : Nat → Int32) : Prop := np = I w 7 ∧ na = I w 8 ∧ (∀ k, k < 6 → wi k = I (w + 2) k) ∧ (∀ k, k < 18 → pe k = I (w + 4) k) ∧ (∀ k, k < 18 → ra k = I (w + 5) k) ∧ (∀ k, k < 18 → ho k = I (w + 6) k)
/-- bounds of a world -/
def bW (I : MI) (w np na : Nat) : Prop := I w 7 = nn np ∧ np ≤ 6 ∧ I w 8 = nn na ∧ na ≤ 18 ∧ (∃ h, h < 24 ∧ I w 4 = nn h) ∧ (∃ l, l ≤ 150 ∧ I w 6 = nn l) ∧ (∀ a, a < na → ∃ p, p < np ∧ I (w + 4) a = nn p) ∧ (∀ a, a < na → ∃ s, s < 10 ∧ I (w + 6) a = nn s) ∧ (∀ a, a < na → ∃ s, s < 10 ∧ I (w + 7) a = nn s) ∧ (∀ a, a < 18 → I (w + 8) a = 0 ∨ I (w + 8) a = 1) ∧ (∀ a, a < 18 → I (w + 10) a = 0 ∨ I (w + 10) a = 1) ∧ (∀ p, p < 6 → ∃ q, q ≤ 9999 ∧ I (w + 3) p = nn q)
def bWor (I : MI) (w : Nat) (J : MI) : Prop := rW I w (J 208) ∧ rS I w (J 207 6) (J 207 7) (J 211) (J 212) (J 213) (J 214) ∧ ∃ np na, bW I w np na
def bBk (c r : Nat → Int32) : Prop := ∀ k, k < 750 → r k = c k
/-- kinds on the stack of a law's codes: 0 a number, 1 a condition, 2 a NUMBER that is not 0 -/
def tyStep (o a : Int32) (st : List Nat) : Option (List Nat) :=
  if o = 0 then (if st.length < 40 then some ((if a = 0 then 0 else 2) :: st) else none)
  else if o = 1 then (if st.length < 40 ∧ ¬ a < 0 ∧ a < 9 then some (0 :: st) else none)
  else match st with
    | x :: y :: r => if o = 2 ∨ o = 3 ∨ o = 4 then (if x ≠ 1 ∧ y ≠ 1 then some (0 :: r) else none)
      else if o = 5 then (if x = 2 ∧ y ≠ 1 then some (0 :: r) else none)
      else if o = 6 ∨ o = 7 ∨ o = 8 then (if x ≠ 1 ∧ y ≠ 1 then some (1 :: r) else none)
      else if o = 9 then (if x = 1 then some (1 :: y :: r) else none)
      else if o = 10 ∨ o = 11 then (if x = 1 ∧ y = 1 then some (1 :: r) else none)
      else none
    | [x] => if o = 9 ∧ x = 1 then some [1] else none
    | [] => none
def tyRun (op ar : Nat → Int32) : Nat → Nat → List Nat → Option (List Nat)
  | _, 0, st => some st
  | k, n + 1, st => match tyStep (op k) (ar k) st with
    | some s => tyRun op ar (k + 1) n s
    | none => none
/-- the class's code for an operation of the reference's -/
def codOf (o a : Int32) : Int32 :=
  if o = 0 then a else if o = 1 then -27 - a else if o = 2 then -1 else if o = 3 then -2 else if o = 4 then -3 else if o = 5 then -4 else if o = 6 then -5 else if o = 7 then -6 else if o = 8 then -7 else if o = 9 then -8 else if o = 10 then -9 else -10
def isInt9 (o a : Int32) : Prop := (o = 0 ∧ ∃ v, v < 10000 ∧ a = nn v) ∨ (o = 1 ∧ ∃ v, v < 9 ∧ a = nn v) ∨ (∃ v, 2 ≤ v ∧ v < 12 ∧ o = nn v)
def bLaw (I : MI) (l : Nat) (J : MI) : Prop := ∃ n, n ≤ 16 ∧ I (l + 1) 3 = nn n ∧ J 218 0 = nn n ∧ (∃ c, c ≤ 400 ∧ I l 1 = nn c) ∧ ∀ i, i < n → (∃ v, v < 3 ∧ I (l + 2) (4 * i) = nn v ∧ J 219 i = nn v) ∧ ∃ f m t, f ≤ m ∧ m ≤ t ∧ t ≤ 400 ∧ I (l + 2) (4 * i + 1) = nn f ∧ J 220 i = nn f ∧ I (l + 2) (4 * i + 2) = nn m ∧ J 221 i = nn m ∧ I (l + 2) (4 * i + 3) = nn t ∧ J 222 i = nn t ∧ (∀ k, f ≤ k → k < t → isInt9 (J 223 k) (J 224 k) ∧ I (l + 3) k = codOf (J 223 k) (J 224 k)) ∧ (∃ z, z ≠ 1 ∧ tyRun (J 223) (J 224) f (m - f) [] = some [z]) ∧ (m < t → tyRun (J 223) (J 224) m (t - m) [] = some [1])
def bSha (I : MI) (t : Nat) (J : MI) : Prop := ∃ n, n ≤ 16 ∧ I t 3 = nn n ∧ J 207 36 = nn n ∧ ∀ i, i < n → J 226 (4 * i) = I (t + 1) (4 * i) ∧ J 226 (4 * i + 1) = I (t + 1) (4 * i + 1) ∧ J 226 (4 * i + 2) = I (t + 1) (4 * i + 2) ∧ ∃ s, s < 10 ∧ I (t + 1) (4 * i + 3) = nn s ∧ J 226 (4 * i + 3) = nn s
/-- a line of the diary, for so many persons and aliases -/
def rDia (np na : Nat) (kc kr who v : Int32) : Prop := (kc = 22 ∧ kr = 0 ∧ (∃ a, a < na ∧ who = nn a) ∧ ∃ s, s < 10 ∧ v = nn s) ∨ (kc = 23 ∧ kr = 1 ∧ (∃ p, p < np ∧ who = nn p) ∧ ∃ s, s < 1000 ∧ v = nn s) ∨ (kc = 24 ∧ kr = 2 ∧ ∃ a, a < na ∧ who = nn a) ∨ (kc = 9 ∧ kr = 3 ∧ (∃ s, s < 10 ∧ who = nn s) ∧ ∃ s, s < 10 ∧ v = nn s)
def bDia (I : MI) (t w : Nat) (J : MI) : Prop := ∃ n, n ≤ 16 ∧ I t 3 = nn n ∧ J 207 38 = nn n ∧ ∃ np na, I w 7 = nn np ∧ np ≤ 6 ∧ I w 8 = nn na ∧ na ≤ 18 ∧ ∀ i, i < n → J 227 (5 * i) = I (t + 1) (5 * i) ∧ J 227 (5 * i + 1) = I (t + 1) (5 * i + 1) ∧ J 227 (5 * i + 3) = I (t + 1) (5 * i + 3) ∧ J 227 (5 * i + 4) = I (t + 1) (5 * i + 4) ∧ rDia np na (I (t + 1) (5 * i + 2)) (J 227 (5 * i + 2)) (I (t + 1) (5 * i + 3)) (I (t + 1) (5 * i + 4))
def bWay (I : MI) (t : Nat) (J : MI) : Prop := ∃ n, n ≤ 16 ∧ I t 3 = nn n ∧ J 207 40 = nn n ∧ ∃ f g : Nat → Nat, (∀ i, i < n → f i < 10 ∧ g i < 10 ∧ f i ≠ g i ∧ I (t + 1) (2 * i) = nn (f i) ∧ I (t + 1) (2 * i + 1) = nn (g i)) ∧ ∀ s, s < 10 → ∃ m, m < 1024 ∧ J 228 s = nn m ∧ ∀ b, b < 10 → (m.testBit b = true ↔ ∃ i, i < n ∧ ((f i = s ∧ g i = b) ∨ (g i = s ∧ f i = b)))
def bSig (I : MI) (t : Nat) (J : MI) : Prop := ∃ n, n ≤ 10 ∧ I t 3 = nn n ∧ J 207 44 = nn n ∧ ∀ i, i < n → (∃ m, m < 100 ∧ I (t + 1) (2 * i) = nn m ∧ J 231 i = nn m) ∧ ∃ s, s < 10 ∧ I (t + 1) (2 * i + 1) = nn s ∧ J 232 i = nn s
def bPai (I : MI) (t : Nat) (J : MI) : Prop := ∃ n, n ≤ 12 ∧ I t 3 = nn n ∧ J 207 49 = nn n ∧ ∃ f g o : Nat → Nat, (∀ i, i < n → f i < 10 ∧ g i < 10 ∧ f i ≠ g i ∧ o i < 2 ∧ I (t + 1) (3 * i) = nn (f i) ∧ I (t + 1) (3 * i + 1) = nn (g i) ∧ I (t + 1) (3 * i + 2) = nn (o i)) ∧ (∀ s, s < 10 → ∃ m, m < 1024 ∧ J 235 s = nn m ∧ ∀ b, b < 10 → (m.testBit b = true ↔ ∃ i, i < n ∧ o i = 1 ∧ ((f i = s ∧ g i = b) ∨ (g i = s ∧ f i = b)))) ∧ ∀ s, s < 10 → ∃ m, m < 1024 ∧ J 236 s = nn m ∧ ∀ b, b < 10 → (m.testBit b = true ↔ ∃ i, i < n ∧ o i = 0 ∧ ((f i = s ∧ g i = b) ∨ (g i = s ∧ f i = b)))
def bWrd (I : MI) (t : Nat) (J : MI) : Prop := ∃ n, n ≤ 10 ∧ I t 3 = nn n ∧ J 207 53 = nn n ∧ ∀ i, i < n → (∃ m, m < 8 ∧ I (t + 1) (3 * i) = nn m ∧ J 238 i = nn m) ∧ (∃ m, m < 8 ∧ I (t + 1) (3 * i + 1) = nn m ∧ J 239 i = nn m) ∧ ∃ m, m < 2 ∧ I (t + 1) (3 * i + 2) = nn m ∧ J 240 i = nn m
def bVot (I : MI) (t : Nat) (J : MI) : Prop := ∃ n, n ≤ 6 ∧ I t 3 = nn n ∧ J 207 57 = nn n ∧ ∀ i, i < n → ∃ m, m < 31 ∧ I (t + 1) i = nn m ∧ J 241 i = nn m
def bNot (I : MI) (t j : Nat) (J : MI) : Prop := ∃ n, n ≤ 12 ∧ I t 3 = nn n ∧ J 242 j = nn n ∧ ∀ i, i < n → ∃ m, m < 26 ∧ I (t + 1) i = nn m ∧ J 243 (12 * j + i) = nn m
def bBoo (I : MI) (t : Nat) (J : MI) : Prop := ∃ n, n ≤ 8 ∧ I t 3 = nn n ∧ J 207 61 = nn n ∧ ∀ i, i < n → ∃ m, m < 51 ∧ I (t + 1) i = nn m ∧ J 244 i = nn m
def bBed (I : MI) (t : Nat) (J : MI) : Prop := ∃ n, n ≤ 8 ∧ I t 3 = nn n ∧ J 207 63 = nn n ∧ ∀ i, i < n → (∃ m, m < 51 ∧ I (t + 1) (2 * i) = nn m ∧ J 245 i = nn m) ∧ ∃ m, m < 51 ∧ I (t + 1) (2 * i + 1) = nn m ∧ J 246 i = nn m
def bBox (I : MI) (t : Nat) (J : MI) : Prop := ∃ n, n ≤ 10 ∧ I t 3 = nn n ∧ J 207 67 = nn n ∧ ∀ i, i < n → ∃ m, m < 26 ∧ I (t + 1) i = nn m ∧ J 248 i = nn m
def loanS (c : Nat → Int32) (k : Nat) : Nat → Int32
  | 0 => 0
  | n + 1 => loanS c k n + (if c (3 * n) = nn k then c (3 * n + 2) else 0) - (if c (3 * n + 1) = nn k then c (3 * n + 2) else 0)
def bLoa (I : MI) (t : Nat) (J : MI) : Prop := ∃ n, n ≤ 8 ∧ I t 3 = nn n ∧ J 207 70 = nn n ∧ (∀ i, i < n → (∃ m, m < 6 ∧ I (t + 1) (3 * i) = nn m) ∧ (∃ m, m < 6 ∧ I (t + 1) (3 * i + 1) = nn m) ∧ ∃ m, m < 100 ∧ I (t + 1) (3 * i + 2) = nn m) ∧ ∀ k, k < 6 → J 250 k = loanS (I (t + 1)) k n
/-- a stock s, and what the reference has of it in J -/
def bStk (I : MI) (s : Nat) (J : MI) : Prop := bWor I (s + 1) J ∧ bBk (I (s + 13)) (J 215) ∧ bLaw I (s + 15) J ∧ bSha I (s + 20) J ∧ bDia I (s + 22) (s + 1) J ∧ bWay I (s + 24) J ∧ bSig I (s + 26) J ∧ bPai I (s + 28) J ∧ bWrd I (s + 30) J ∧ bVot I (s + 32) J ∧ bNot I (s + 34) 0 J ∧ bNot I (s + 36) 1 J ∧ bBoo I (s + 38) J ∧ bBed I (s + 40) J ∧ bBox I (s + 42) J ∧ bLoa I (s + 44) J
def bTap (I J : MI) : Prop := (∃ n, n ≤ 400 ∧ I 93 0 = nn n ∧ J 207 14 = nn n) ∧ (∀ k, k < 400 → ∃ c, c < 256 ∧ I 106 k = nn c ∧ J 216 k = nn c) ∧ J 207 34 = I 93 1 ∧ J 207 35 = I 93 2
/-- the latest states: the class's ring, the reference's rows -/
def bPst (I J : MI) : Prop := ∃ n c, n < 6 ∧ c ≤ 6 ∧ I 0 8 = nn n ∧ I 0 9 = nn c ∧ J 207 3 = nn c ∧ ∀ r, r < c → rW I (124 + 11 * ((n + 6 - c + r) % 6)) (fun k => J 209 (95 * r + k)) ∧ rS I (124 + 11 * ((n + 6 - c + r) % 6)) (J 207 6) (J 207 7) (J 211) (J 212) (J 213) (J 214) ∧ ∃ np na, bW I (124 + 11 * ((n + 6 - c + r) % 6)) np na
/-- the image, laid out as the reference has it -/
def imV (Z : Nat → Int32) (a k : Nat) : Int32 := match a with
  | 208 => Z k
  | 207 => match k with
    | 6 => Z 95
    | 7 => Z 96
    | 36 => Z 97
    | 38 => Z 98
    | 40 => Z 99
    | 44 => Z 100
    | 49 => Z 101
    | 53 => Z 102
    | 57 => Z 103
    | 61 => Z 104
    | 63 => Z 105
    | 67 => Z 106
    | 70 => Z 107
    | _ => 0
  | 242 => Z (108 + k)
  | 212 => Z (110 + 3 * k)
  | 213 => Z (111 + 3 * k)
  | 214 => Z (112 + 3 * k)
  | 211 => Z (164 + 3 * k)
  | 241 => Z (165 + 3 * k)
  | 250 => Z (166 + 3 * k)
  | 228 => Z (182 + 9 * k)
  | 231 => Z (183 + 9 * k)
  | 232 => Z (184 + 9 * k)
  | 235 => Z (185 + 9 * k)
  | 236 => Z (186 + 9 * k)
  | 238 => Z (187 + 9 * k)
  | 239 => Z (188 + 9 * k)
  | 240 => Z (189 + 9 * k)
  | 248 => Z (190 + 9 * k)
  | 244 => Z (272 + 3 * k)
  | 245 => Z (273 + 3 * k)
  | 246 => Z (274 + 3 * k)
  | 243 => Z (296 + k)
  | 226 => Z (320 + k)
  | 227 => Z (384 + k)
  | 215 => Z (464 + k)
  | 218 => Z 1214
  | 219 => Z (1215 + 4 * k)
  | 220 => Z (1216 + 4 * k)
  | 221 => Z (1217 + 4 * k)
  | 222 => Z (1218 + 4 * k)
  | 223 => Z (1279 + 2 * k)
  | 224 => Z (1280 + 2 * k)
  | _ => 0
def bImg (I J : MI) : Prop := J 207 75 = I 0 2 ∧ (I 0 2 = 0 ∨ (I 0 2 = 1 ∧ bStk I 47 (imV (J 253))))
def tabC : List (Nat × Nat × Nat) := [(17, 4, 16), (21, 4, 16), (23, 5, 16), (25, 2, 16), (27, 2, 10), (29, 3, 12), (31, 3, 10), (33, 1, 6), (35, 1, 12), (37, 1, 12), (39, 1, 8), (41, 2, 8), (43, 1, 10), (45, 3, 8), (63, 4, 16), (67, 4, 16), (69, 5, 16), (71, 2, 16), (73, 2, 10), (75, 3, 12), (77, 3, 10), (79, 1, 6), (81, 1, 12), (83, 1, 12), (85, 1, 8), (87, 2, 8), (89, 1, 10), (91, 3, 8), (96, 4, 16), (100, 4, 16), (102, 5, 16), (104, 2, 16)]
def lostL : List Nat := [0, 2, 1, 5, 7, 3, 10, 4, 13, 15, 6, 18, 20, 8, 23, 9, 26, 28, 11, 31, 12, 34, 36, 14, 39, 41, 16, 44, 17, 47, 49, 19, 52, 54, 21, 57, 22, 60, 62, 24, 65]
def wordL : List Nat := [32, 115, 101, 101, 110, 32, 99, 111, 115, 116, 115, 32, 103, 97, 105, 110, 115, 32, 119, 104, 101, 110, 32, 111, 114, 32, 97, 110, 100, 32, 110, 111, 116, 32, 114, 97, 110, 107, 32, 119, 105, 116, 115, 32, 101, 121, 101, 115, 32, 107, 110, 111, 119, 110, 32, 112, 117, 114, 115, 101, 32, 104, 111, 117, 114, 32, 115, 116, 114, 101, 101, 116, 32, 111, 116, 104, 101, 114, 115, 32, 100, 97, 121, 32, 97, 108, 105, 97, 115, 32, 102, 114, 111, 109, 32, 116, 111, 32, 105, 110, 32, 111, 110, 32, 97, 116, 32, 119, 97, 108, 107, 32, 103, 105, 118, 101, 32, 108, 105, 101, 32, 98, 121, 32]
def bCon (I J : MI) : Prop := (∀ e, e ∈ tabC → I e.1 0 = nn e.2.1 ∧ I e.1 1 = nn e.2.2) ∧ I 110 2 = 0 ∧ I 122 2 = 1 ∧ (∀ k, k < 41 → I 206 k = nn (lostL.getD k 0)) ∧ (∀ k, k < 124 → J 217 k = nn (wordL.getD k 0)) ∧ J 207 5 = 0
def Rl (I J : MI) : Prop := bStk I 1 J ∧ bTap I J ∧ bPst I J ∧ bImg I J ∧ bCon I J
/-- both answer alike, and stay so -/
def Call (F G : M Int32) : Prop := ∀ I J, Rl I J → ∃ v I1 J1, F I = some (v, I1) ∧ G J = some (v, J1) ∧ Rl I1 J1
end REL
