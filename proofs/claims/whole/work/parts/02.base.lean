/-! words of the tables -/
/-- a whole number of the code -/
def i32 (n : Int) : Int32 := match n with
  | .ofNat k => Int32.ofNat k
  | .negSucc k => -(Int32.ofNat (k + 1))
/-- a field's type: 0 int, 1 boolean, 2 a reference -/
def ftyOf (F : List (List Nat)) (c k : Nat) : Nat := match F[c]? with
  | some l => match l[k]? with
    | some t => t
    | none => 9
  | none => 9
/-- a method's code, how many values it takes (its object too), its locals, what it answers (0 nothing, 1 an int, 2 a boolean, 3 a long, 4 a reference), the class of its object (98: any, a constructor; 99: none) -/
abbrev MR : Type := List (Nat × Instr × Nat) × Nat × Nat × Nat × Nat
abbrev MT : Type := List MR
