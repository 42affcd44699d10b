/-! the two constructors, run in the kernel -/
section PH5
def isDone (r : Option (Option Value × PH)) : Bool := match r with
  | some (none, _) => true
  | _ => false
def endH (r : Option (Option Value × PH)) : PH := match r with
  | some (_, h) => h
  | none => ([], fun _ _ => none, fun _ _ => 0)
theorem done_eq {r : Option (Option Value × PH)} (h : isDone r = true) : r = some (none, endH r) := by
  match r, h with
  | some (none, _), _ => rfl
  | some (some _, _), h => cases h
  | none, h => cases h
def newH (h : PH) (k n : Nat) : PH := (h.1 ++ [(k, n)], bup h.2.1 h.1.length (fun _ => none), bup h.2.2 h.1.length (fun _ => 0))
noncomputable def runA : Option (Option Value × PH) := prun pT pN pF 0 (fun _ => 0) 4000 999 0 0 (locE [.ref 0] 2) [] (newH ([], fun _ _ => none, fun _ _ => 0) 13 12)
theorem runA_ok : isDone runA = true := by decide +kernel
theorem runA_sh : (endH runA).1.length = 207 := by decide +kernel
noncomputable def runR : Option (Option Value × PH) := prun pT pN pF 0 (fun _ => 0) 4000 999 191 0 (locE [.ref 207] 1) [] (newH (endH runA) 14 78)
theorem runR_ok : isDone runR = true := by decide +kernel
theorem runR_sh : (endH runR).1.length = 254 := by decide +kernel
end PH5
