/-! the pure machine's code is the class files' code, by computing -/
def plainOp (op : Instr) : Bool := match op with
  | .iadd => true
  | .isub => true
  | .imul => true
  | .idiv => true
  | .irem => true
  | .ineg => true
  | .iand => true
  | .ior => true
  | .ixor => true
  | .ishl => true
  | .ishr => true
  | .iushr => true
  | .lsub => true
  | .lmul => true
  | .ldiv => true
  | .lrem => true
  | .lcmp => true
  | .i2l => true
  | .l2i => true
  | .pop => true
  | .dup => true
  | .dup2 => true
  | .iaload => true
  | .iastore => true
  | .aaload => true
  | .aastore => true
  | .arraylength => true
  | .return_ => true
  | .ireturn => true
  | .lreturn => true
  | .areturn => true
  | _ => false
def tgt (pc : Nat) (off t : Int) : Bool := decide ((pc : Int) + off = t) && decide (0 ≤ t)
def has3 (l : List (List (Nat × Nat × Nat))) (o i n : Nat) : Bool := match l[o]? with
  | some l => l.any (fun e => e.1 == i && e.2.1 == n)
  | none => false
def hasM (o i n : Nat) (sp : Nat) : Bool := match pML[o]? with
  | some l => l.any (fun e => e.1 == i && e.2.1 == n && (match e.2.2.1 with
    | 0 => sp == 0
    | 1 => sp == 1
    | 2 => sp == 1
    | _ => sp == 3))
  | none => false
def hasK (o i : Nat) (n : Int) : Bool := match pKL[o]? with
  | some l => l.any (fun e => e.1 == i && e.2.1 == n)
  | none => false
def finOK (o : Nat) (ct : Bool) (n : Nat) : Bool := match pcl[n / 128]? with
  | some c => !(c.2.1 (n % 128)).2.2.2 || (ct && (c.2.1 (n % 128)).1 == (oN.getD o ""))
  | none => false
def opChk (o : Nat) (ct : Bool) (pc len : Nat) (op i : Instr) : Bool := match op with
  | .aload n => match i with
    | .aload m => n == m && len == 2
    | .aload_n k => n == k.val && len == 1
    | _ => false
  | .iload n => match i with
    | .iload m => n == m && len == 2
    | .iload_n k => n == k.val && len == 1
    | _ => false
  | .lload n => match i with
    | .lload m => n == m && len == 2
    | .lload_n k => n == k.val && len == 1
    | _ => false
  | .astore n => match i with
    | .astore m => n == m && len == 2
    | .astore_n k => n == k.val && len == 1
    | _ => false
  | .istore n => match i with
    | .istore m => n == m && len == 2
    | .istore_n k => n == k.val && len == 1
    | _ => false
  | .lstore n => match i with
    | .lstore m => n == m && len == 2
    | .lstore_n k => n == k.val && len == 1
    | _ => false
  | .iinc n c => match i with
    | .iinc m d => n == m && decide (i32 c = Int32.ofInt d) && len == 3
    | _ => false
  | .iconst n => match i with
    | .iconst m => decide (Int32.ofInt m = i32 n) && len == 1
    | .bipush m => decide ((Int8.ofInt m).toInt32 = i32 n) && len == 2
    | .sipush m => decide ((Int16.ofInt m).toInt32 = i32 n) && len == 3
    | .ldc x => hasK o x n && len == 2
    | .ldc_w x => hasK o x n && len == 3
    | _ => false
  | .lconst n => match i with
    | .lconst m => n == m && len == 1
    | _ => false
  | .ldc_w n => match i with
    | .ldc x => o == 5 && x == 102 && len == 2
    | _ => false
  | .goto t => match i with
    | .goto off => tgt pc off t && len == 3
    | _ => false
  | .ifCond c t => match i with
    | .ifCond d off => c == d && tgt pc off t && len == 3
    | _ => false
  | .if_icmp c t => match i with
    | .if_icmp d off => c == d && tgt pc off t && len == 3
    | _ => false
  | .tableswitch d lo hi ts => match i with
    | .tableswitch d' lo' hi' offs => tgt pc d' d && lo == lo' && hi == hi' && ts.toList == offs.toList.map (fun z => (pc : Int) + z) && ts.toList.all (fun z => decide (0 ≤ z)) && decide ((ts.size : Int) = hi - lo + 1)
    | _ => false
  | .lookupswitch d ps => match i with
    | .lookupswitch d' ps' => tgt pc d' d && ps.toList == ps'.toList.map (fun z => (z.1, (pc : Int) + z.2)) && ps.toList.all (fun z => decide (0 ≤ z.2) && decide ((i32 z.1).toInt = z.1)) && (ps'.toList.zip (ps'.toList.drop 1)).all (fun (a, next) => a.1 < next.1)
    | _ => false
  | .getfield n => match i with
    | .getfield x => has3 pFL o x n && len == 3
    | _ => false
  | .putfield n => match i with
    | .putfield x => has3 pFL o x n && finOK o ct n && len == 3
    | _ => false
  | .saload => match i with
    | .iaload => len == 1
    | _ => false
  | .sastore => match i with
    | .arraylength => len == 1
    | _ => false
  | .new n => match i with
    | .new x => has3 pCL o x n && len == 3
    | _ => false
  | .newarray _ => match i with
    | .newarray .int => len == 2
    | _ => false
  | .anewarray _ => match i with
    | .anewarray x => has3 pCL o x 10 && len == 3
    | _ => false
  | .invokedynamic n => match i with
    | .invokespecial x => n == 0 && has3 pBL o x n && len == 3
    | .invokestatic x => decide (1 ≤ n) && (decide (n ≤ 4) || n == 7) && has3 pBL o x n && len == 3
    | .invokevirtual x => decide (5 ≤ n) && decide (n ≤ 6) && has3 pBL o x n && len == 3
    | _ => false
  | .invokevirtual n => match i with
    | .invokevirtual x => hasM o x n 0 && len == 3
    | _ => false
  | .invokestatic n => match i with
    | .invokestatic x => hasM o x n 1 && len == 3
    | _ => false
  | .invokespecial n => match i with
    | .invokespecial x => hasM o x n 3 && len == 3
    | _ => false
  | _ => plainOp op && op == i && len == 1
def eChk (o : Nat) (ct : Bool) (b : ByteArray) (e : Nat × Instr × Nat) : Bool := match decode b e.1 with
  | .ok (i, l) => l == e.2.2 && opChk o ct e.1 e.2.2 e.2.1 i
  | .error _ => false
def mChk (m : PInf) (t : MR) : Bool := t.1.all (eChk m.2.2.2.2.1 m.2.2.2.2.2 m.2.1)
def pQ : List (PInf × MR) := pM.zip pT
theorem allAt {α : Type} {p : α → Bool} {l : List α} {z : Nat} {e : α} (a n : Nat) (h1 : a ≤ z) (h2 : z < a + n) (hz : l[z]? = some e) (h : ((l.drop a).take n).all p = true) : p e = true := by
  have h4 : ((l.drop a).take n)[z - a]? = some e := by
    rw [List.getElem?_take_of_lt (by omega), List.getElem?_drop, Nat.add_sub_cancel' h1]
    exact hz
  exact List.all_eq_true.mp h _ (List.mem_of_getElem? h4)
theorem allChunks {α : Type} (p : α → Bool) (c : Nat) (hc : 0 < c) : ∀ (n : Nat) (l : List α), l.length ≤ c * n → (∀ k, k < n → ((l.drop (c * k)).take c).all p = true) → l.all p = true := by
  intro n
  induction n with
  | zero => intro l h _; have : l = [] := List.length_eq_zero_iff.mp (by omega); subst this; rfl
  | succ n ih =>
    intro l h hk
    have h0 := hk 0 (by omega)
    simp only [Nat.mul_zero, List.drop_zero] at h0
    have h1 : (l.drop c).all p = true := by
      refine ih _ (by rw [List.length_drop, Nat.mul_succ] at *; omega) (fun k hkn => ?_)
      have h2 := hk (k + 1) (by omega)
      rw [List.drop_drop]
      rw [Nat.mul_succ] at h2
      rwa [Nat.add_comm c (c * k)]
    rw [← List.take_append_drop c l, List.all_append, h0, h1]
    rfl
