/-! One round of the law's loop, checked in shares. -/
def qLA : List (Nat × AS) := (aproc qEnv qPh qCSL qModA true 7 kRc0 kRs0 (some .boolean) qPL qPostL 9 (lfc 70) qGL none true 23 qS0).getD []
def qLX : List (Nat × AS) := (expn qEnv qPh qCSL qModA true 7 kRc0 kRs0 (some .boolean) qPL qPostL 9 (lfc 70) qGL none 13 qLA).getD []
theorem qLA_s : (aproc qEnv qPh qCSL qModA true 7 kRc0 kRs0 (some .boolean) qPL qPostL 9 (lfc 70) qGL none true 23 qS0).isSome = true := by decide +kernel
theorem qLX_s : (expn qEnv qPh qCSL qModA true 7 kRc0 kRs0 (some .boolean) qPL qPostL 9 (lfc 70) qGL none 13 qLA).isSome = true := by decide +kernel
theorem qLS_0 : expl qEnv qPh qCSL qModA true 7 kRc0 kRs0 (some .boolean) qPL qPostL 9 (lfc 70) qGL none 600 (qLX.take 1) = true := by decide +kernel
theorem qLS_1 : expl qEnv qPh qCSL qModA true 7 kRc0 kRs0 (some .boolean) qPL qPostL 9 (lfc 70) qGL none 600 ((qLX.drop 1).take 1) = true := by decide +kernel
theorem qLS_2 : expl qEnv qPh qCSL qModA true 7 kRc0 kRs0 (some .boolean) qPL qPostL 9 (lfc 70) qGL none 600 (((qLX.drop 1).drop 1).take 1) = true := by decide +kernel
theorem qLS_13 : expl qEnv qPh qCSL qModA true 7 kRc0 kRs0 (some .boolean) qPL qPostL 9 (lfc 70) qGL none 600 ((((((((((((((qLX.drop 1).drop 1).drop 1).drop 3).drop 3).drop 3).drop 3).drop 3).drop 3).drop 3).drop 3).drop 3).drop 3).take 1) = true := by decide +kernel
theorem qLS_14 : expl qEnv qPh qCSL qModA true 7 kRc0 kRs0 (some .boolean) qPL qPostL 9 (lfc 70) qGL none 600 (((((((((((((((qLX.drop 1).drop 1).drop 1).drop 3).drop 3).drop 3).drop 3).drop 3).drop 3).drop 3).drop 3).drop 3).drop 3).drop 1).take 1) = true := by decide +kernel
theorem qLS_15 : expl qEnv qPh qCSL qModA true 7 kRc0 kRs0 (some .boolean) qPL qPostL 9 (lfc 70) qGL none 600 ((((((((((((((((qLX.drop 1).drop 1).drop 1).drop 3).drop 3).drop 3).drop 3).drop 3).drop 3).drop 3).drop 3).drop 3).drop 3).drop 1).drop 1).take 1) = true := by decide +kernel
