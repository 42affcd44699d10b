/-! methods as functions on the ints: a monad, and how code is read as it (references are known, shape too) -/
section WF1
abbrev M (β : Type) : Type := MI → Option (β × MI)
def rt {β : Type} (x : β) : M β := fun I => some (x, I)
def fl {β : Type} : M β := fun _ => none
def bn {α β : Type} (m : M α) (f : α → M β) : M β := fun I => match m I with
  | some (x, I1) => f x I1
  | none => none
def rd (a k : Nat) : M Int32 := fun I => some (I a k, I)
def wr (a k : Nat) (x : Int32) : M Unit := fun I => some ((), bup I a (upd (I a) k x))
def gd (b : Bool) : M Unit := fun I => match b with
  | true => some ((), I)
  | false => none
def gdZ (x : Int32) : M Unit := fun I => if x = 0 ∨ x = 1 then some ((), I) else none
def ld (n a : Nat) (i : Int32) : M Int32 := fun I => match inR i n with
  | true => some (I a i.toNatClampNeg, I)
  | false => none
def sr (n a : Nat) (i x : Int32) : M Unit := fun I => match inR i n with
  | true => some ((), bup I a (upd (I a) i.toNatClampNeg x))
  | false => none
def wrZ (a k : Nat) (x : Int32) : M Unit := fun I => if x = 0 ∨ x = 1 then some ((), bup I a (upd (I a) k x)) else none
def cpM (na nb a : Nat) (sp : Int32) (b : Nat) (dp n : Int32) : M Unit := fun I => match (!(decide (sp < 0)) && !(decide (dp < 0)) && !(decide (n < 0)) && decide (sp.toNatClampNeg + n.toNatClampNeg ≤ na) && decide (dp.toNatClampNeg + n.toNatClampNeg ≤ nb)) with
  | true => some ((), bup I b (cpyI (I a) (I b) sp.toNatClampNeg dp.toNatClampNeg n.toNatClampNeg))
  | false => none
def ush (x y : Int32) : Int32 := (x.toUInt32 >>> (y.toUInt32 &&& Int32.toUInt32 31)).toInt32
def lp {σ β : Type} (body : σ → M (σ ⊕ β)) : Nat → σ → M β
  | 0, _ => fl
  | n + 1, x => bn (body x) fun r => match r with
    | .inl y => lp body n y
    | .inr y => rt y
def FU : Nat := 5000
def dvI {β : Type} (y : Int32) (k : M β) : M β := if y = 0 then fl else k
def dvJ {β : Type} (y : Int64) (k : M β) : M β := if y = 0 then fl else k
abbrev mB {β : Type} (b : Bool) (k : M β) : M β := match b with
  | true => k
  | false => fl
/-- places and values, with what kind of thing each is -/
abbrev TL : Type := List (Nat × Value)
def nth {α : Type} : List α → Nat → Option α
  | [], _ => none
  | a :: _, 0 => some a
  | _ :: r, i + 1 => nth r i
def setL {α : Type} : List α → Nat → α → List α
  | [], _, _ => []
  | _ :: r, 0, x => x :: r
  | a :: r, i + 1, x => a :: setL r i x
def memN (x : Nat) : List Nat → Bool
  | [] => false
  | c :: r => match Nat.beq x c with
    | true => true
    | false => memN x r
def lookW : List (Nat × Instr × Nat) → Nat → Option (Instr × Nat)
  | [], _ => none
  | e :: r, pc => match Nat.beq e.1 pc with
    | true => some e.2
    | false => lookW r pc
def catW : TL → Nat
  | [] => 0
  | e :: r => catV e.2 + catW r
def lowW (st : TL) : Bool := Nat.ble (catW st) 8
/-- a leaf's locals -/
abbrev gI {β : Type} (ls : TL) (i : Nat) (k : Int32 → M β) : M β := match nth ls i with
  | some (_, .int x) => k x
  | _ => fl
abbrev gJ {β : Type} (ls : TL) (i : Nat) (k : Int64 → M β) : M β := match nth ls i with
  | some (_, .long x) => k x
  | _ => fl
abbrev gR {β : Type} (ls : TL) (i t : Nat) (k : Nat → M β) : M β := match nth ls i with
  | some (t2, .ref a) => match Nat.beq t2 t with
    | true => k a
    | false => fl
  | _ => fl
abbrev gA {β : Type} (ls : TL) (i : Nat) (k : Nat → Nat → M β) : M β := match nth ls i with
  | some (t, .ref a) => k t a
  | _ => fl
abbrev oB {α : Type _} {β : Type} (o : Option α) (k : α → M β) : M β := match o with
  | some x => k x
  | none => fl
/-- the objects of each class -/
def objL (t : Nat) : List Nat := match t with
  | 100 => [13, 59]
  | 101 => [110, 122]
  | 102 => [16, 62, 95]
  | 103 => [192, 199]
  | 104 => [190]
  | 105 => [93]
  | 106 => [195]
  | 107 => [1, 47]
  | 108 => [17, 21, 23, 25, 27, 29, 31, 33, 35, 37, 39, 41, 43, 45, 63, 67, 69, 71, 73, 75, 77, 79, 81, 83, 85, 87, 89, 91, 96, 100, 102, 104]
  | 109 => [15, 61, 94]
  | 110 => [2, 48, 111, 124, 135, 146, 157, 168, 179]
  | 111 => [0]
  | 112 => [207]
  | _ => []
/-- what kind of thing an address is: 100 and a class; 10000 and a size (ints); 9999 ints, some size; 9998 the row of worlds; 9997 the script; 9996 the keywords -/
def okB (t a : Nat) : Bool := match Nat.ble 10000 t with
  | true => isArr shT a && Nat.beq (siz shT a) (t - 10000)
  | false => match t with
    | 9999 => isArr shT a
    | 9998 => Nat.beq a 123
    | 9997 => Nat.beq a 1000000
    | 9996 => Nat.beq a 1000001
    | t => memN a (objL t)
/-- references in fields: what kind, and where: 0 always there, 1 so far behind, 2 a world of hours -/
def frL : List (Nat × Nat × Nat × Nat) := [(0, 10750, 1, 1), (128, 107, 0, 1), (129, 110, 2, 0), (256, 108, 1, 1), (258, 10400, 1, 3), (259, 10040, 1, 4), (384, 10010, 1, 1), (385, 10010, 1, 2), (512, 107, 0, 1), (513, 10010, 0, 191), (514, 103, 0, 192), (643, 107, 0, 1), (644, 109, 0, 94), (645, 10400, 0, 106), (646, 10401, 0, 107), (647, 10401, 0, 108), (648, 10401, 0, 109), (768, 107, 0, 1), (769, 10010, 0, 196), (770, 10010, 0, 197), (771, 10010, 0, 198), (773, 103, 0, 199), (774, 10026, 0, 202), (775, 10006, 0, 203), (776, 10006, 0, 204), (777, 10064, 0, 205), (778, 10041, 0, 206), (896, 110, 1, 1), (897, 100, 1, 12), (898, 109, 1, 14), (899, 108, 1, 26), (900, 108, 1, 28), (901, 108, 1, 30), (902, 108, 1, 32), (903, 108, 1, 34), (904, 108, 1, 36), (905, 108, 1, 38), (906, 108, 1, 40), (907, 108, 1, 42), (908, 108, 1, 44), (1026, 9999, 1, 1), (1152, 102, 1, 1), (1153, 108, 1, 6), (1154, 108, 1, 8), (1155, 108, 1, 10), (1289, 10010, 1, 1), (1290, 10006, 1, 2), (1291, 10006, 1, 3), (1292, 10018, 1, 4), (1293, 10018, 1, 5), (1294, 10018, 1, 6), (1295, 10018, 1, 7), (1296, 10018, 1, 8), (1297, 10018, 1, 9), (1298, 10018, 1, 10), (1408, 107, 0, 1), (1409, 107, 0, 47), (1411, 105, 0, 93), (1412, 101, 0, 110), (1413, 110, 0, 111), (1414, 101, 0, 122), (1415, 9998, 0, 123), (1418, 104, 0, 190), (1419, 106, 0, 195), (1537, 10095, 0, 208), (1538, 10570, 0, 209), (1540, 10095, 0, 210), (1544, 10006, 0, 211), (1545, 10018, 0, 212), (1546, 10018, 0, 213), (1547, 10018, 0, 214), (1548, 10750, 0, 215), (1549, 10400, 0, 216), (1555, 10124, 0, 217), (1556, 10002, 0, 218), (1557, 10048, 0, 219), (1558, 10048, 0, 220), (1559, 10048, 0, 221), (1560, 10048, 0, 222), (1561, 11200, 0, 223), (1562, 11200, 0, 224), (1566, 10040, 0, 225), (1573, 10128, 0, 226), (1575, 10160, 0, 227), (1577, 10020, 0, 228), (1578, 10009, 0, 229), (1579, 10420, 0, 230), (1581, 10010, 0, 231), (1582, 10010, 0, 232), (1583, 11024, 0, 233), (1584, 11024, 0, 234), (1586, 10010, 0, 235), (1587, 10010, 0, 236), (1588, 11024, 0, 237), (1590, 10010, 0, 238), (1591, 10010, 0, 239), (1592, 10010, 0, 240), (1594, 10006, 0, 241), (1595, 10002, 0, 242), (1596, 10024, 0, 243), (1598, 10008, 0, 244), (1600, 10008, 0, 245), (1601, 10008, 0, 246), (1602, 12304, 0, 247), (1604, 10010, 0, 248), (1605, 10006, 0, 249), (1607, 10006, 0, 250), (1608, 10064, 0, 251), (1609, 11681, 0, 252), (1613, 12400, 0, 253)]
def frf : List (Nat × Nat × Nat × Nat) → Nat → Option (Nat × Nat × Nat)
  | [], _ => none
  | e :: r, n => match Nat.beq e.1 n with
    | true => some e.2
    | false => frf r n
def hw (a : Nat) : Nat := match Nat.beq a 110 with
  | true => 2
  | false => 111
def adr (md x a : Nat) : Nat := match md with
  | 0 => x
  | 1 => a + x
  | _ => hw a
def arS (t a : Nat) : Option Nat := match Nat.ble 10000 t with
  | true => some (t - 10000)
  | false => match Nat.beq t 9999 with
    | true => some (siz shT a)
    | false => none
abbrev CSem : Type 1 := (β : Type) → TL → (Option (Nat × Value) → M β) → M β
def cfind : List (Nat × Nat × CSem) → Nat → Option (Nat × CSem)
  | [], _ => none
  | e :: r, q => match Nat.beq e.1 q with
    | true => some e.2
    | false => cfind r q
abbrev wbr {β : Type} (c : ClassFile.Cond) (x y : Int32) (a b : M β) : M β := match c with
  | .eq => if x = y then a else b
  | .ne => if x = y then b else a
  | .lt => if x < y then a else b
  | .ge => if x < y then b else a
  | .gt => if y < x then a else b
  | .le => if y < x then b else a
def wsw {β : Type} (f : Nat → M β) (d : Int) (x : Int32) : List (Int × Int) → M β
  | [] => f d.toNat
  | e :: r => if x = i32 e.1 then f e.2.toNat else wsw f d x r
/-- a local is written: one of those that may be -/
abbrev wsv {β : Type} (mods : List Nat) (ls : TL) (i : Nat) (v : Nat × Value) (k : TL → M β) : M β := mB (memN i mods && decide (i < ls.length) && !(longBefore (ls.map Prod.snd) i)) (k (setL ls i v))
def wst {β : Type} (L : Nat) (X : Nat → Int32) (cs : List (Nat × Nat × CSem)) (rk : Nat) (mods : List Nat) (rl : Option (Nat × Value) → M β) (nx : Nat → TL → TL → M β) (op : Instr) (len pc : Nat) (ls st : TL) : M β :=
  match op with
  | .aload i => gA ls i fun t a => nx (pc + len) ls ((t, .ref a) :: st)
  | .iload i => gI ls i fun x => nx (pc + len) ls ((0, .int x) :: st)
  | .lload i => gJ ls i fun x => nx (pc + len) ls ((0, .long x) :: st)
  | .astore i => match st with
    | (t, .ref a) :: st => wsv mods ls i (t, .ref a) fun ls => nx (pc + len) ls st
    | _ => fl
  | .istore i => match st with
    | (_, .int x) :: st => wsv mods ls i (0, .int x) fun ls => nx (pc + len) ls st
    | _ => fl
  | .lstore i => match st with
    | (_, .long x) :: st => mB (memN (i + 1) mods && decide (i + 1 < ls.length)) (wsv mods ls i (0, .long x) fun ls => nx (pc + len) (setL ls (i + 1) (0, dV)) st)
    | _ => fl
  | .iinc i n => gI ls i fun x => wsv mods ls i (0, .int (x + i32 n)) fun ls => nx (pc + len) ls st
  | .iconst n => nx (pc + len) ls ((0, .int (i32 n)) :: st)
  | .ldc_w _ => nx (pc + len) ls ((9996, .ref 1000001) :: st)
  | .lconst n => nx (pc + len) ls ((0, .long (Int64.ofNat n.val)) :: st)
  | .iadd => match st with
    | (_, .int y) :: (_, .int x) :: st => nx (pc + len) ls ((0, .int (x + y)) :: st)
    | _ => fl
  | .isub => match st with
    | (_, .int y) :: (_, .int x) :: st => nx (pc + len) ls ((0, .int (x - y)) :: st)
    | _ => fl
  | .imul => match st with
    | (_, .int y) :: (_, .int x) :: st => nx (pc + len) ls ((0, .int (x * y)) :: st)
    | _ => fl
  | .idiv => match st with
    | (_, .int y) :: (_, .int x) :: st => dvI y <| nx (pc + len) ls ((0, .int (x / y)) :: st)
    | _ => fl
  | .irem => match st with
    | (_, .int y) :: (_, .int x) :: st => dvI y <| nx (pc + len) ls ((0, .int (x - x / y * y)) :: st)
    | _ => fl
  | .ineg => match st with
    | (_, .int x) :: st => nx (pc + len) ls ((0, .int (-x)) :: st)
    | _ => fl
  | .iand => match st with
    | (_, .int y) :: (_, .int x) :: st => nx (pc + len) ls ((0, .int (x &&& y)) :: st)
    | _ => fl
  | .ior => match st with
    | (_, .int y) :: (_, .int x) :: st => nx (pc + len) ls ((0, .int (x ||| y)) :: st)
    | _ => fl
  | .ixor => match st with
    | (_, .int y) :: (_, .int x) :: st => nx (pc + len) ls ((0, .int (x ^^^ y)) :: st)
    | _ => fl
  | .ishl => match st with
    | (_, .int y) :: (_, .int x) :: st => nx (pc + len) ls ((0, .int (x <<< (y &&& 31))) :: st)
    | _ => fl
  | .ishr => match st with
    | (_, .int y) :: (_, .int x) :: st => nx (pc + len) ls ((0, .int (x >>> (y &&& 31))) :: st)
    | _ => fl
  | .iushr => match st with
    | (_, .int y) :: (_, .int x) :: st => nx (pc + len) ls ((0, .int (ush x y)) :: st)
    | _ => fl
  | .lsub => match st with
    | (_, .long y) :: (_, .long x) :: st => nx (pc + len) ls ((0, .long (x - y)) :: st)
    | _ => fl
  | .lmul => match st with
    | (_, .long y) :: (_, .long x) :: st => nx (pc + len) ls ((0, .long (x * y)) :: st)
    | _ => fl
  | .ldiv => match st with
    | (_, .long y) :: (_, .long x) :: st => dvJ y <| nx (pc + len) ls ((0, .long (x / y)) :: st)
    | _ => fl
  | .lrem => match st with
    | (_, .long y) :: (_, .long x) :: st => dvJ y <| nx (pc + len) ls ((0, .long (x - x / y * y)) :: st)
    | _ => fl
  | .lcmp => match st with
    | (_, .long y) :: (_, .long x) :: st => nx (pc + len) ls ((0, .int (lg_cmp x y)) :: st)
    | _ => fl
  | .i2l => match st with
    | (_, .int x) :: st => nx (pc + len) ls ((0, .long x.toInt64) :: st)
    | _ => fl
  | .l2i => match st with
    | (_, .long x) :: st => nx (pc + len) ls ((0, .int x.toInt32) :: st)
    | _ => fl
  | .pop => match st with
    | (_, .int _) :: st => nx (pc + len) ls st
    | _ => fl
  | .dup => match st with
    | (_, .int x) :: st => nx (pc + len) ls ((0, .int x) :: (0, .int x) :: st)
    | (t, .ref a) :: st => nx (pc + len) ls ((t, .ref a) :: (t, .ref a) :: st)
    | _ => fl
  | .dup2 => match st with
    | (_, .int y) :: (t, .ref a) :: st => nx (pc + len) ls ((0, .int y) :: (t, .ref a) :: (0, .int y) :: (t, .ref a) :: st)
    | _ => fl
  | .goto t => nx t.toNat ls st
  | .ifCond c t => match st with
    | (_, .int x) :: st => wbr c x 0 (nx t.toNat ls st) (nx (pc + len) ls st)
    | _ => fl
  | .if_icmp c t => match st with
    | (_, .int y) :: (_, .int x) :: st => wbr c x y (nx t.toNat ls st) (nx (pc + len) ls st)
    | _ => fl
  | .tableswitch d lo _ ts => match st with
    | (_, .int x) :: st => mB (idxOK (idxL lo ts.toList)) (wsw (fun pc => nx pc ls st) d x (idxL lo ts.toList))
    | _ => fl
  | .lookupswitch d ps => match st with
    | (_, .int x) :: st => wsw (fun pc => nx pc ls st) d x ps.toList
    | _ => fl
  | .getfield n => match st with
    | (t, .ref a) :: st => mB (Nat.beq t (100 + n / 128)) (match Nat.beq (ftyOf pF (n / 128) (n % 128)) 2 with
        | true => oB (frf frL n) (fun q => nx (pc + len) ls ((q.1, .ref (adr q.2.1 q.2.2 a)) :: st))
        | false => mB (Nat.ble (ftyOf pF (n / 128) (n % 128)) 1) (bn (rd a (n % 128)) fun v => nx (pc + len) ls ((0, .int v) :: st)))
    | _ => fl
  | .putfield n => match st with
    | (_, .int x) :: (t, .ref a) :: st => mB (Nat.beq t (100 + n / 128)) (match Nat.beq (ftyOf pF (n / 128) (n % 128)) 0 with
        | true => bn (wr a (n % 128) x) fun _ => nx (pc + len) ls st
        | false => mB (Nat.beq (ftyOf pF (n / 128) (n % 128)) 1) (bn (wrZ a (n % 128) x) fun _ => nx (pc + len) ls st))
    | _ => fl
  | .iaload => match st with
    | (_, .int i) :: (t, .ref a) :: st => oB (arS t a) (fun n => bn (ld n a i) fun v => nx (pc + len) ls ((0, .int v) :: st))
    | _ => fl
  | .iastore => match st with
    | (_, .int x) :: (_, .int i) :: (t, .ref a) :: st => oB (arS t a) (fun n => bn (sr n a i x) fun _ => nx (pc + len) ls st)
    | _ => fl
  | .aaload => match st with
    | (_, .int i) :: (t, .ref _) :: st => mB (Nat.beq t 9998) (bn (gd (inR i 6)) fun _ => nx (pc + len) ls ((110, .ref (124 + 11 * i.toNatClampNeg)) :: st))
    | _ => fl
  | .arraylength => match st with
    | (t, .ref a) :: st => oB (arS t a) (fun n => nx (pc + len) ls ((0, .int (Int32.ofNat n)) :: st))
    | _ => fl
  | .saload => match st with
    | (_, .int i) :: (t, .ref _) :: st => mB (Nat.beq t 9997) (bn (gd (inR i L)) fun _ => nx (pc + len) ls ((0, .int (X i.toNatClampNeg)) :: st))
    | _ => fl
  | .sastore => match st with
    | (t, .ref _) :: st => mB (Nat.beq t 9997) (nx (pc + len) ls ((0, .int (Int32.ofNat L)) :: st))
    | _ => fl
  | .invokedynamic 1 => match st with
    | (_, .int n) :: (_, .int dp) :: (t2, .ref b) :: (_, .int sp) :: (t1, .ref a) :: st => mB (lowW st) (oB (arS t1 a) fun na => oB (arS t2 b) fun nb => bn (cpM na nb a sp b dp n) fun _ => nx (pc + len) ls st)
    | _ => fl
  | .invokedynamic 2 => match st with
    | (_, .int y) :: (_, .int x) :: st => mB (lowW st) (nx (pc + len) ls ((0, .int (if y < x then y else x)) :: st))
    | _ => fl
  | .invokedynamic 3 => match st with
    | (_, .int y) :: (_, .int x) :: st => mB (lowW st) (nx (pc + len) ls ((0, .int (if x < y then y else x)) :: st))
    | _ => fl
  | .invokedynamic 7 => match st with
    | (_, .int y) :: (_, .int x) :: st => mB (lowW st) (dvI y <| nx (pc + len) ls ((0, .int (fmJ x y)) :: st))
    | _ => fl
  | .invokedynamic 5 => match st with
    | (t, .ref _) :: st => mB (lowW st && Nat.beq t 9996) (nx (pc + len) ls ((0, .int (Int32.ofNat 122)) :: st))
    | _ => fl
  | .invokedynamic 6 => match st with
    | (_, .int i) :: (t, .ref _) :: st => mB (lowW st && Nat.beq t 9996) (bn (gd (inR i 122)) fun _ => nx (pc + len) ls ((0, .int (kwC i.toNatClampNeg)) :: st))
    | _ => fl
  | .invokedynamic 4 => match st with
    | (_, .long y) :: (_, .long x) :: st => mB (lowW st) (nx (pc + len) ls ((0, .long (if y < x then x else y)) :: st))
    | _ => fl
  | .return_ => match st with
    | [] => mB (Nat.beq rk 0) (rl none)
    | _ => fl
  | .ireturn => match st with
    | [(_, .int x)] => match rk with
      | 1 => rl (some (0, .int x))
      | 2 => bn (gdZ x) fun _ => rl (some (0, .int x))
      | _ => fl
    | _ => fl
  | .lreturn => match st with
    | [(_, .long x)] => mB (Nat.beq rk 3) (rl (some (0, .long x)))
    | _ => fl
  | .areturn => match st with
    | [(t, .ref a)] => mB (Nat.beq rk 4) (rl (some (t, .ref a)))
    | _ => fl
  | .invokevirtual q => oB (cfind cs q) (fun q => mB (Nat.ble q.1 st.length && lowW (st.drop q.1)) (q.2 β (st.take q.1).reverse fun v => nx (pc + len) ls (v.toList ++ st.drop q.1)))
  | .invokespecial q => oB (cfind cs q) (fun q => mB (Nat.ble q.1 st.length && lowW (st.drop q.1)) (q.2 β (st.take q.1).reverse fun v => nx (pc + len) ls (v.toList ++ st.drop q.1)))
  | .invokestatic q => oB (cfind cs q) (fun q => mB (Nat.ble q.1 st.length && lowW (st.drop q.1)) (q.2 β (st.take q.1).reverse fun v => nx (pc + len) ls (v.toList ++ st.drop q.1)))
  | _ => fl
def wf {β : Type} (L : Nat) (X : Nat → Int32) (T : List (Nat × Instr × Nat)) (rk : Nat) (cs : List (Nat × Nat × CSem)) (mods cuts : List Nat) (lf : Nat → TL → TL → M β) (rl : Option (Nat × Value) → M β) : Nat → Nat → TL → TL → M β
  | 0 => fun _ _ _ => fl
  | k + 1 => fun pc ls st => match lookW T pc with
    | none => fl
    | some (op, len) => wst L X cs rk mods rl (fun pc ls st => match memN pc cuts with
      | true => lf pc ls st
      | false => wf L X T rk cs mods cuts lf rl k pc ls st) op len pc ls st
end WF1
