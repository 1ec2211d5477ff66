def qLA : List (Nat × AS) := (aproc qEnv qPh qCSL qModA true 7 kRc0 kRs0 (some .boolean) qPL qPostL 9 (lfc 70) qGL none true 23 qS0).getD []
theorem qLA_s : (aproc qEnv qPh qCSL qModA true 7 kRc0 kRs0 (some .boolean) qPL qPostL 9 (lfc 70) qGL none true 23 qS0).isSome = true := by decide +kernel
theorem qLA_eq : aproc qEnv qPh qCSL qModA true 7 kRc0 kRs0 (some .boolean) qPL qPostL 9 (lfc 70) qGL none true 23 qS0 = some qLA := osome qLA_s []
theorem qLE : ∃ f, expl qEnv qPh qCSL qModA true 7 kRc0 kRs0 (some .boolean) qPL qPostL 9 (lfc 70) qGL none f qLA = true := sorry
