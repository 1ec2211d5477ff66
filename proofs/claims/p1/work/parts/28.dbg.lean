abbrev kXn : String := "java/util/NoSuchElementException"
def kXl : List Cond := vx_atS "TriplicateForms" 129 kXn ["java/lang/RuntimeException", "java/lang/Exception"]
set_option maxRecDepth 100000 in
theorem dbg1 : ∀ w ∈ (vx_atS "TriplicateForms" 129 "java/util/NoSuchElementException" ["java/lang/RuntimeException", "java/lang/Exception"]).filter goodWord, w ∈ lw_tbl := by decide +kernel
set_option maxRecDepth 100000 in
theorem dbg2 : ((kXl.filter goodWord).zipIdx.filter (fun q => decide (q.1 ∉ lw_tbl))).map (fun q => q.2) = [] := by decide +kernel
set_option maxRecDepth 100000 in
theorem dbg3 : (kXl.filter goodWord).filter (fun w => decide (w ∉ lw_tbl)) = [] := by
  unfold kXl vx_atS Bundle.ownAtoms
  simp only [Bundle.throwableAtoms, Bundle.throwableSAtoms, Bundle.chainSAtoms]
  decide +kernel
