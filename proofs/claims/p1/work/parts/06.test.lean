set_option maxRecDepth 1000000 in
theorem ktest1 : (match kcall kmeths [] 12 0 [.inl (.ref 0)] [[.inr (10, kY10.map (fun t => (.inl (defaultValue t) : KV)))]] with
  | some (_, w) => kfr 0 w
  | none => 0) = 148 := by decide +kernel
set_option maxRecDepth 1000000 in
theorem ktest2 : (match kcall kmeths [] 12 98 [.inl (.ref 0)] [[.inr (11, kY11.map (fun t => (.inl (defaultValue t) : KV)))]] with
  | some (_, w) => kfr 0 w
  | none => 0) = 19 := by decide +kernel
