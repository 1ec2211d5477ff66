/-! the runs, by the kernel -/
def kRc : Nat := 600002
def kRs : Nat := 7302232
def kS0 : KF := (0, [(0, .inl (.ref 1000000))], [], [], 0, 0)
def kFin (o : Option (Instr × KF)) : Bool := match o with
  | some (ig, _, _, st, _, c, s) => (match ig with
    | .ireturn => (match st with
      | [.inl (.int v)] => decide (v = 1)
      | _ => false)
    | _ => false) && (Nat.ble c kRc && Nat.ble s kRs)
  | none => false
def kleaf (ks : Int32) (rg : List (Int × Int)) : Bool := kFin (krun (kcall kmeths rg (some ks) 12) rg (some ks) 7 7 kRc kRs kPL kfuel [] kS1)
def kleafL (L : Nat) : Bool := kFin (krun (kcall kmeths [] none 12) [] none L 7 kRc kRs kPL kfuel [] kS1)
set_option maxRecDepth 1000000 in
theorem kprefix : keO (kgoTo (kcall kmeths [] none 12) [] none 0 7 kRc kRs kPL 23 kfuel kS0) kS1 = true := by decide +kernel
set_option maxRecDepth 1000000 in
theorem kshort0 : kleafL 1 = true := by decide +kernel
set_option maxRecDepth 1000000 in
theorem kshort1 : kleafL 2 = true := by decide +kernel
set_option maxRecDepth 1000000 in
theorem kshort2 : kleafL 3 = true := by decide +kernel
set_option maxRecDepth 1000000 in
theorem kshort3 : kleafL 4 = true := by decide +kernel
set_option maxRecDepth 1000000 in
theorem kshort4 : kleafL 5 = true := by decide +kernel
set_option maxRecDepth 1000000 in
theorem kshort5 : kleafL 6 = true := by decide +kernel
