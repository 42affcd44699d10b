/-! A PURE MACHINE over numbered cells: what the system's bytecode does, as a function that computes. -/
section PM
/-- memory: each cell's kind (0: ints; 1: references to World; c + 2: an object of class c) and size; what its reference slots hold; what its int slots hold -/
abbrev MI : Type := Nat → Nat → Int32
abbrev PH : Type := List (Nat × Nat) × (Nat → Nat → Option Nat) × MI
def knd (sh : List (Nat × Nat)) (a : Nat) : Nat := match sh[a]? with
  | some c => c.1
  | none => 9999
def siz (sh : List (Nat × Nat)) (a : Nat) : Nat := match sh[a]? with
  | some c => c.2
  | none => 0
/-- one row of the memory is another -/
def bup {α : Type} (I : Nat → α) (a : Nat) (g : α) : Nat → α := fun j => if j = a then g else I j
/-- a local that holds nothing -/
def dV : Value := .float 0
def isDV (v : Value) : Bool := match v with
  | .float _ => true
  | _ => false
def isLV (v : Value) : Bool := match v with
  | .long _ => true
  | .double _ => true
  | _ => false
/-- an index that is within -/
def inR (i : Int32) (n : Nat) : Bool := !(decide (i < 0)) && decide (i.toNatClampNeg < n)
def longBefore (ls : List Value) (i : Nat) : Bool := match i with
  | 0 => false
  | j + 1 => match ls[j]? with
    | some (.long _) => true
    | _ => false
def st1 (ls : List Value) (i : Nat) (v : Value) : Option (List Value) := if decide (i < ls.length) && !(longBefore ls i) then some (ls.set i v) else none
def st2 (ls : List Value) (i : Nat) (v : Value) : Option (List Value) := if decide (i + 1 < ls.length) && !(longBefore ls i) then some ((ls.set i v).set (i + 1) dV) else none
/-- where a switch goes (its targets are absolute) -/
def swAt (d lo : Int) (ts : List Int) (x : Int32) : Nat := match ts[(x.toInt - lo).toNat]? with
  | some t => if x.toInt < lo then d.toNat else t.toNat
  | none => d.toNat
def lkAt (d : Int) : List (Int × Int) → Int32 → Nat
  | [], _ => d.toNat
  | (k, t) :: r, x => if x = i32 k then t.toNat else lkAt d r x
def icond (c : ClassFile.Cond) (x y : Int32) : Bool := match c with
  | .eq => decide (x = y)
  | .ne => !(decide (x = y))
  | .lt => decide (x < y)
  | .ge => decide (y ≤ x)
  | .gt => decide (y < x)
  | .le => decide (x ≤ y)
def catV (v : Value) : Nat := v.category
def low (st : List Value) : Bool := decide ((st.map catV).sum ≤ 8)
abbrev SR : Type := Bool × Bool × Nat × Nat × List Value × List Value × PH
/-- on to the next -/
def go (pc : Nat) (ls st : List Value) (h : PH) : Option SR := some (true, true, pc, pc, ls, st, h)
def goIf (ob : Bool) (pc : Nat) (ls st : List Value) (h : PH) : Option SR := some (ob, true, pc, pc, ls, st, h)
/-- the class of an object, by its number -/
def isObj (sh : List (Nat × Nat)) (a c : Nat) : Bool := knd sh a == c + 2
def isArr (sh : List (Nat × Nat)) (a : Nat) : Bool := knd sh a == 0
def isRow (sh : List (Nat × Nat)) (a : Nat) : Bool := knd sh a == 1
def rfd (rf : Nat → Nat → Option Nat) (a k : Nat) : Nat := match rf a k with
  | some x => x
  | none => 0
def rfs (rf : Nat → Nat → Option Nat) (a k : Nat) : Bool := match rf a k with
  | some _ => true
  | none => false
/-- the keywords' text, sign by sign -/
def kwB : List Nat := [115, 101, 101, 110, 32, 99, 111, 115, 116, 115, 32, 103, 97, 105, 110, 115, 32, 119, 104, 101, 110, 32, 111, 114, 32, 97, 110, 100, 32, 110, 111, 116, 32, 114, 97, 110, 107, 32, 119, 105, 116, 115, 32, 101, 121, 101, 115, 32, 107, 110, 111, 119, 110, 32, 112, 117, 114, 115, 101, 32, 104, 111, 117, 114, 32, 115, 116, 114, 101, 101, 116, 32, 111, 116, 104, 101, 114, 115, 32, 100, 97, 121, 32, 97, 108, 105, 97, 115, 32, 102, 114, 111, 109, 32, 116, 111, 32, 105, 110, 32, 111, 110, 32, 97, 116, 32, 119, 97, 108, 107, 32, 103, 105, 118, 101, 32, 108, 105, 101, 32, 98, 121]
def kwC (j : Nat) : Int32 := match kwB[j]? with
  | some c => Int32.ofNat c
  | none => 0
/-- Math.floorMod, as its code has it -/
def fmJ (a m : Int32) : Int32 := if 0 ≤ a ^^^ m then a - a / m * m else if a - a / m * m = 0 then a - a / m * m else a - a / m * m + m
def cpyI (f g : Nat → Int32) (sp dp n : Nat) : Nat → Int32 := fun k => if dp ≤ k ∧ k < dp + n then f (sp + (k - dp)) else g k
/-- one instruction that is no call and no return: whether it may be, whether it jumps, where to, and what is then. N: fields of a class; F: their types; L: the script's length; X: the script -/
def stp (N : List Nat) (F : List (List Nat)) (L : Nat) (X : Nat → Int32) (op : Instr) (len pc : Nat) (ls st : List Value) (h : PH) : Option SR :=
  match op with
  | .aload i => match ls[i]? with
    | some (.ref a) => go (pc + len) ls (.ref a :: st) h
    | _ => none
  | .iload i => match ls[i]? with
    | some (.int x) => go (pc + len) ls (.int x :: st) h
    | _ => none
  | .lload i => match ls[i]? with
    | some (.long x) => go (pc + len) ls (.long x :: st) h
    | _ => none
  | .astore i => match st with
    | .ref a :: st => match st1 ls i (.ref a) with
      | some ls => go (pc + len) ls st h
      | none => none
    | _ => none
  | .istore i => match st with
    | .int x :: st => match st1 ls i (.int x) with
      | some ls => go (pc + len) ls st h
      | none => none
    | _ => none
  | .lstore i => match st with
    | .long x :: st => match st2 ls i (.long x) with
      | some ls => go (pc + len) ls st h
      | none => none
    | _ => none
  | .iinc i n => match ls[i]? with
    | some (.int x) => match st1 ls i (.int (x + i32 n)) with
      | some ls => go (pc + len) ls st h
      | none => none
    | _ => none
  | .iconst n => go (pc + len) ls (.int (i32 n) :: st) h
  | .ldc_w _ => go (pc + len) ls (.ref 1000001 :: st) h
  | .lconst n => go (pc + len) ls (.long (Int64.ofNat n.val) :: st) h
  | .iadd => match st with
    | .int y :: .int x :: st => go (pc + len) ls (.int (x + y) :: st) h
    | _ => none
  | .isub => match st with
    | .int y :: .int x :: st => go (pc + len) ls (.int (x - y) :: st) h
    | _ => none
  | .imul => match st with
    | .int y :: .int x :: st => go (pc + len) ls (.int (x * y) :: st) h
    | _ => none
  | .idiv => match st with
    | .int y :: .int x :: st => goIf (!(decide (y = 0))) (pc + len) ls (.int (x / y) :: st) h
    | _ => none
  | .irem => match st with
    | .int y :: .int x :: st => goIf (!(decide (y = 0))) (pc + len) ls (.int (x - x / y * y) :: st) h
    | _ => none
  | .ineg => match st with
    | .int x :: st => go (pc + len) ls (.int (-x) :: st) h
    | _ => none
  | .iand => match st with
    | .int y :: .int x :: st => go (pc + len) ls (.int (x &&& y) :: st) h
    | _ => none
  | .ior => match st with
    | .int y :: .int x :: st => go (pc + len) ls (.int (x ||| y) :: st) h
    | _ => none
  | .ixor => match st with
    | .int y :: .int x :: st => go (pc + len) ls (.int (x ^^^ y) :: st) h
    | _ => none
  | .ishl => match st with
    | .int y :: .int x :: st => go (pc + len) ls (.int (x <<< (y &&& 31)) :: st) h
    | _ => none
  | .ishr => match st with
    | .int y :: .int x :: st => go (pc + len) ls (.int (x >>> (y &&& 31)) :: st) h
    | _ => none
  | .iushr => match st with
    | .int y :: .int x :: st => go (pc + len) ls (.int ((x.toUInt32 >>> (y.toUInt32 &&& Int32.toUInt32 31)).toInt32) :: st) h
    | _ => none
  | .lsub => match st with
    | .long y :: .long x :: st => go (pc + len) ls (.long (x - y) :: st) h
    | _ => none
  | .lmul => match st with
    | .long y :: .long x :: st => go (pc + len) ls (.long (x * y) :: st) h
    | _ => none
  | .ldiv => match st with
    | .long y :: .long x :: st => goIf (!(decide (y = 0))) (pc + len) ls (.long (x / y) :: st) h
    | _ => none
  | .lrem => match st with
    | .long y :: .long x :: st => goIf (!(decide (y = 0))) (pc + len) ls (.long (x - x / y * y) :: st) h
    | _ => none
  | .lcmp => match st with
    | .long y :: .long x :: st => go (pc + len) ls (.int (lg_cmp x y) :: st) h
    | _ => none
  | .i2l => match st with
    | .int x :: st => go (pc + len) ls (.long x.toInt64 :: st) h
    | _ => none
  | .l2i => match st with
    | .long x :: st => go (pc + len) ls (.int x.toInt32 :: st) h
    | _ => none
  | .pop => match st with
    | .int _ :: st => go (pc + len) ls st h
    | _ => none
  | .dup => match st with
    | .int x :: st => go (pc + len) ls (.int x :: .int x :: st) h
    | .ref a :: st => go (pc + len) ls (.ref a :: .ref a :: st) h
    | _ => none
  | .dup2 => match st with
    | .int y :: .ref a :: st => go (pc + len) ls (.int y :: .ref a :: .int y :: .ref a :: st) h
    | _ => none
  | .goto t => go t.toNat ls st h
  | .ifCond c t => match st with
    | .int x :: st => some (true, icond c x 0, t.toNat, pc + len, ls, st, h)
    | _ => none
  | .if_icmp c t => match st with
    | .int y :: .int x :: st => some (true, icond c x y, t.toNat, pc + len, ls, st, h)
    | _ => none
  | .tableswitch d lo _ ts => match st with
    | .int x :: st => go (swAt d lo ts.toList x) ls st h
    | _ => none
  | .lookupswitch d ps => match st with
    | .int x :: st => go (lkAt d ps.toList x) ls st h
    | _ => none
  | .getfield n => match st with
    | .ref a :: st => match ftyOf F (n / 128) (n % 128) with
      | 2 => goIf (isObj h.1 a (n / 128) && rfs h.2.1 a (n % 128)) (pc + len) ls (.ref (rfd h.2.1 a (n % 128)) :: st) h
      | 9 => none
      | _ => goIf (isObj h.1 a (n / 128)) (pc + len) ls (.int (h.2.2 a (n % 128)) :: st) h
    | _ => none
  | .putfield n => match st with
    | .int x :: .ref a :: st => match ftyOf F (n / 128) (n % 128) with
      | 0 => goIf (isObj h.1 a (n / 128)) (pc + len) ls st (h.1, h.2.1, bup h.2.2 a (upd (h.2.2 a) (n % 128) x))
      | 1 => goIf (isObj h.1 a (n / 128) && (decide (x = 0) || decide (x = 1))) (pc + len) ls st (h.1, h.2.1, bup h.2.2 a (upd (h.2.2 a) (n % 128) x))
      | _ => none
    | .ref v :: .ref a :: st => match ftyOf F (n / 128) (n % 128) with
      | 2 => goIf (isObj h.1 a (n / 128)) (pc + len) ls st (h.1, bup h.2.1 a (va_up (h.2.1 a) (n % 128) (some v)), h.2.2)
      | _ => none
    | _ => none
  | .iaload => match st with
    | .int i :: .ref a :: st => goIf (isArr h.1 a && inR i (siz h.1 a)) (pc + len) ls (.int (h.2.2 a i.toNatClampNeg) :: st) h
    | _ => none
  | .iastore => match st with
    | .int x :: .int i :: .ref a :: st => goIf (isArr h.1 a && inR i (siz h.1 a)) (pc + len) ls st (h.1, h.2.1, bup h.2.2 a (upd (h.2.2 a) i.toNatClampNeg x))
    | _ => none
  | .aaload => match st with
    | .int i :: .ref a :: st => goIf (isRow h.1 a && inR i (siz h.1 a) && rfs h.2.1 a i.toNatClampNeg) (pc + len) ls (.ref (rfd h.2.1 a i.toNatClampNeg) :: st) h
    | _ => none
  | .aastore => match st with
    | .ref v :: .int i :: .ref a :: st => goIf (isRow h.1 a && inR i (siz h.1 a) && isObj h.1 v 10) (pc + len) ls st (h.1, bup h.2.1 a (va_up (h.2.1 a) i.toNatClampNeg (some v)), h.2.2)
    | _ => none
  | .arraylength => match st with
    | .ref a :: st => goIf (isArr h.1 a) (pc + len) ls (.int (Int32.ofNat (siz h.1 a)) :: st) h
    | _ => none
  | .saload => match st with
    | .int i :: .ref a :: st => goIf (decide (a = 1000000) && inR i L) (pc + len) ls (.int (X i.toNatClampNeg) :: st) h
    | _ => none
  | .sastore => match st with
    | .ref a :: st => goIf (decide (a = 1000000)) (pc + len) ls (.int (Int32.ofNat L) :: st) h
    | _ => none
  | .new c => match N[c]? with
    | some n => goIf (decide (h.1.length < 100000)) (pc + len) ls (.ref h.1.length :: st) (h.1 ++ [(c + 2, n)], bup h.2.1 h.1.length (fun _ => none), bup h.2.2 h.1.length (fun _ => 0))
    | none => none
  | .newarray _ => match st with
    | .int x :: st => goIf (!(decide (x < 0)) && decide (x.toNatClampNeg ≤ 100000) && decide (h.1.length < 100000)) (pc + len) ls (.ref h.1.length :: st) (h.1 ++ [(0, x.toNatClampNeg)], bup h.2.1 h.1.length (fun _ => none), bup h.2.2 h.1.length (fun _ => 0))
    | _ => none
  | .anewarray _ => match st with
    | .int x :: st => goIf (!(decide (x < 0)) && decide (x.toNatClampNeg ≤ 100000) && decide (h.1.length < 100000)) (pc + len) ls (.ref h.1.length :: st) (h.1 ++ [(1, x.toNatClampNeg)], bup h.2.1 h.1.length (fun _ => none), bup h.2.2 h.1.length (fun _ => 0))
    | _ => none
  | .invokedynamic 0 => match st with
    | .ref _ :: st => goIf (low st) (pc + len) ls st h
    | _ => none
  | .invokedynamic 1 => match st with
    | .int n :: .int dp :: .ref b :: .int sp :: .ref a :: st => goIf (low st && isArr h.1 a && isArr h.1 b && !(decide (sp < 0)) && !(decide (dp < 0)) && !(decide (n < 0)) && decide (sp.toNatClampNeg + n.toNatClampNeg ≤ siz h.1 a) && decide (dp.toNatClampNeg + n.toNatClampNeg ≤ siz h.1 b)) (pc + len) ls st (h.1, h.2.1, bup h.2.2 b (cpyI (h.2.2 a) (h.2.2 b) sp.toNatClampNeg dp.toNatClampNeg n.toNatClampNeg))
    | _ => none
  | .invokedynamic 2 => match st with
    | .int y :: .int x :: st => goIf (low st) (pc + len) ls (.int (if y < x then y else x) :: st) h
    | _ => none
  | .invokedynamic 3 => match st with
    | .int y :: .int x :: st => goIf (low st) (pc + len) ls (.int (if x < y then y else x) :: st) h
    | _ => none
  | .invokedynamic 7 => match st with
    | .int y :: .int x :: st => goIf (low st && !(decide (y = 0))) (pc + len) ls (.int (fmJ x y) :: st) h
    | _ => none
  | .invokedynamic 5 => match st with
    | .ref a :: st => goIf (low st && decide (a = 1000001)) (pc + len) ls (.int (Int32.ofNat kwB.length) :: st) h
    | _ => none
  | .invokedynamic 6 => match st with
    | .int i :: .ref a :: st => goIf (low st && decide (a = 1000001) && inR i kwB.length) (pc + len) ls (.int (kwC i.toNatClampNeg) :: st) h
    | _ => none
  | .invokedynamic 4 => match st with
    | .long y :: .long x :: st => goIf (low st) (pc + len) ls (.long (if y < x then x else y) :: st) h
    | _ => none
  | _ => none
def look (l : List (Nat × Instr × Nat)) (pc : Nat) : Option (Instr × Nat) := match l with
  | [] => none
  | e :: r => if e.1 = pc then some e.2 else look r pc
def fetch (T : MT) (y pc : Nat) : Option (Instr × Nat) := match T[y]? with
  | some m => look m.1 pc
  | none => none
/-- the locals at a method's entry -/
def locE (vs : List Value) (n : Nat) : List Value := (vs.flatMap fun v => if isLV v then [v, dV] else [v]) ++ List.replicate (n - (vs.flatMap fun v => if isLV v then [v, dV] else [v]).length) dV
def fitL (vs : List Value) (n : Nat) : Bool := decide ((vs.flatMap fun v => if isLV v then [v, dV] else [v]).length ≤ n)
def callee (op : Instr) : Option Nat := match op with
  | .invokevirtual z => some z
  | .invokespecial z => some z
  | .invokestatic z => some z
  | _ => none
/-- what a return hands out -/
def retV (op : Instr) (rk : Nat) (st : List Value) : Option (Option Value) := match op with
  | .return_ => match st with
    | [] => if rk = 0 then some none else none
    | _ => none
  | .ireturn => match st with
    | [.int x] => if rk = 1 then some (some (.int x)) else if rk = 2 then (if decide (x = 0) || decide (x = 1) then some (some (.int x)) else none) else none
    | _ => none
  | .lreturn => match st with
    | [.long x] => if rk = 3 then some (some (.long x)) else none
    | _ => none
  | .areturn => match st with
    | [.ref a] => if rk = 4 then some (some (.ref a)) else none
    | _ => none
  | _ => none
def isRet (op : Instr) : Bool := match op with
  | .return_ => true
  | .ireturn => true
  | .lreturn => true
  | .areturn => true
  | _ => false
/-- the object that is called -/
def recvOK (rc : Nat) (vs : List Value) (sh : List (Nat × Nat)) : Bool := if rc = 99 then true else match vs with
  | .ref a :: _ => if rc = 98 then true else isObj sh a rc
  | _ => false
abbrev RunT : Type := Nat → Nat → Nat → List Value → List Value → PH → Option (Option Value × PH)
/-- one step of a run, by the runs of one step less -/
def run1 (T : MT) (N : List Nat) (F : List (List Nat)) (L : Nat) (X : Nat → Int32) (ih : RunT) : RunT := fun d y pc ls st h =>
  match fetch T y pc with
  | none => none
  | some (op, len) =>
    if isRet op then
      match T[y]? with
      | some m => match retV op m.2.2.2.1 st with
        | some v => some (v, h)
        | none => none
      | none => none
    else match callee op with
      | some z => match T[z]? with
        | some m => match d with
          | 0 => none
          | d + 1 => if decide (m.2.1 ≤ st.length) && low (st.drop m.2.1) && recvOK m.2.2.2.2 (st.take m.2.1).reverse h.1 && fitL (st.take m.2.1).reverse m.2.2.1 then
              match ih d z 0 (locE (st.take m.2.1).reverse m.2.2.1) [] h with
              | some (v, h1) => ih (d + 1) y (pc + len) ls (v.toList ++ st.drop m.2.1) h1
              | none => none
            else none
        | none => none
      | none => match stp N F L X op len pc ls st h with
        | some (ob, b, pT, pF, ls1, st1, h1) => if ob then ih d y (if b then pT else pF) ls1 st1 h1 else none
        | none => none
noncomputable def prun (T : MT) (N : List Nat) (F : List (List Nat)) (L : Nat) (X : Nat → Int32) (n : Nat) : RunT :=
  Nat.rec (motive := fun _ => RunT) (fun _ _ _ _ _ _ => none) (fun _ ih => run1 T N F L X ih) n
theorem prun_s (T : MT) (N : List Nat) (F : List (List Nat)) (L : Nat) (X : Nat → Int32) (n : Nat) : prun T N F L X (n + 1) = run1 T N F L X (prun T N F L X n) := rfl
theorem prun_0 (T : MT) (N : List Nat) (F : List (List Nat)) (L : Nat) (X : Nat → Int32) : prun T N F L X 0 = fun _ _ _ _ _ _ => none := rfl
end PM
