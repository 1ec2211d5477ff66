set_option maxRecDepth 100000 in
theorem kPL0_ok : ∀ x ∈ kPL0, kEntOK kmeths kStats "TriplicateFormsLaw" "law" code x := kpchk_ok (gs := [135, 11, 13, 0, 0, 0, 0, 99, 1196, 5, 0, 0, 0]) (ps := [2, 3, 0, 4, 5, 0, 6, 9, 8, 1, 10, 11, 1, 12, 7]) (by decide +kernel)
theorem kPL_ok : ∀ x ∈ kPL, kEntOK kmeths kStats "TriplicateFormsLaw" "law" code x := kPL0_ok
/-! The law's way to the head of its loop. -/
def kRc : Nat := 601024
def kRs : Nat := 7293034
def kS0 : KF := (0, [(0, .inl (.ref 1000000))], [], [], 0, 0)
set_option maxRecDepth 1000000 in
theorem kprefix : keO (kgoTo (kcall kmeths [] none 12) [] none 0 7 kRc kRs kPL 23 kfuel kS0) kS1 = true := by decide +kernel
