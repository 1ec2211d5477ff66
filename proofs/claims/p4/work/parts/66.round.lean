/-! One round of the law's loop, checked in shares. -/
set_option maxRecDepth 16384 in
def qLA : List (Nat × AS) := (aproc qEnv qPh qCSL qModB true 7 kRc0 kRs0 (some .boolean) qPL qPostL 9 (lfc 70) qGL none true 23 qS0).getD []
set_option maxRecDepth 16384 in
def qLX : List (Nat × AS) := (expn qEnv qPh qCSL qModB true 7 kRc0 kRs0 (some .boolean) qPL qPostL 9 (lfc 70) qGL none 13 qLA).getD []
set_option maxRecDepth 16384 in
theorem qLA_s : (aproc qEnv qPh qCSL qModB true 7 kRc0 kRs0 (some .boolean) qPL qPostL 9 (lfc 70) qGL none true 23 qS0).isSome = true := by decide +kernel
set_option maxRecDepth 16384 in
theorem qLX_s : (expn qEnv qPh qCSL qModB true 7 kRc0 kRs0 (some .boolean) qPL qPostL 9 (lfc 70) qGL none 13 qLA).isSome = true := by decide +kernel
set_option maxRecDepth 16384 in
theorem qLS_0 : expl qEnv qPh qCSL qModB true 7 kRc0 kRs0 (some .boolean) qPL qPostL 9 (lfc 70) qGL none 600 (qLX.take 1) = true := by decide +kernel
set_option maxRecDepth 16384 in
theorem qLS_1 : expl qEnv qPh qCSL qModB true 7 kRc0 kRs0 (some .boolean) qPL qPostL 9 (lfc 70) qGL none 600 ((qLX.drop 1).take 1) = true := by decide +kernel
set_option maxRecDepth 16384 in
theorem qLS_2 : expl qEnv qPh qCSL qModB true 7 kRc0 kRs0 (some .boolean) qPL qPostL 9 (lfc 70) qGL none 600 (((qLX.drop 1).drop 1).take 1) = true := by decide +kernel
set_option maxRecDepth 16384 in
theorem qLS_3 : expl qEnv qPh qCSL qModB true 7 kRc0 kRs0 (some .boolean) qPL qPostL 9 (lfc 70) qGL none 600 ((((qLX.drop 1).drop 1).drop 1).take 3) = true := by decide +kernel
set_option maxRecDepth 16384 in
theorem qLS_4 : expl qEnv qPh qCSL qModB true 7 kRc0 kRs0 (some .boolean) qPL qPostL 9 (lfc 70) qGL none 600 (((((qLX.drop 1).drop 1).drop 1).drop 3).take 3) = true := by decide +kernel
set_option maxRecDepth 16384 in
theorem qLS_5 : expl qEnv qPh qCSL qModB true 7 kRc0 kRs0 (some .boolean) qPL qPostL 9 (lfc 70) qGL none 600 ((((((qLX.drop 1).drop 1).drop 1).drop 3).drop 3).take 3) = true := by decide +kernel
set_option maxRecDepth 16384 in
theorem qLS_6 : expl qEnv qPh qCSL qModB true 7 kRc0 kRs0 (some .boolean) qPL qPostL 9 (lfc 70) qGL none 600 (((((((qLX.drop 1).drop 1).drop 1).drop 3).drop 3).drop 3).take 3) = true := by decide +kernel
set_option maxRecDepth 16384 in
theorem qLS_7 : expl qEnv qPh qCSL qModB true 7 kRc0 kRs0 (some .boolean) qPL qPostL 9 (lfc 70) qGL none 600 ((((((((qLX.drop 1).drop 1).drop 1).drop 3).drop 3).drop 3).drop 3).take 3) = true := by decide +kernel
set_option maxRecDepth 16384 in
theorem qLS_8 : expl qEnv qPh qCSL qModB true 7 kRc0 kRs0 (some .boolean) qPL qPostL 9 (lfc 70) qGL none 600 (((((((((qLX.drop 1).drop 1).drop 1).drop 3).drop 3).drop 3).drop 3).drop 3).take 3) = true := by decide +kernel
set_option maxRecDepth 16384 in
theorem qLS_9 : expl qEnv qPh qCSL qModB true 7 kRc0 kRs0 (some .boolean) qPL qPostL 9 (lfc 70) qGL none 600 ((((((((((qLX.drop 1).drop 1).drop 1).drop 3).drop 3).drop 3).drop 3).drop 3).drop 3).take 3) = true := by decide +kernel
set_option maxRecDepth 16384 in
theorem qLS_10 : expl qEnv qPh qCSL qModB true 7 kRc0 kRs0 (some .boolean) qPL qPostL 9 (lfc 70) qGL none 600 (((((((((((qLX.drop 1).drop 1).drop 1).drop 3).drop 3).drop 3).drop 3).drop 3).drop 3).drop 3).take 3) = true := by decide +kernel
set_option maxRecDepth 16384 in
theorem qLS_11 : expl qEnv qPh qCSL qModB true 7 kRc0 kRs0 (some .boolean) qPL qPostL 9 (lfc 70) qGL none 600 ((((((((((((qLX.drop 1).drop 1).drop 1).drop 3).drop 3).drop 3).drop 3).drop 3).drop 3).drop 3).drop 3).take 3) = true := by decide +kernel
set_option maxRecDepth 16384 in
theorem qLS_12 : expl qEnv qPh qCSL qModB true 7 kRc0 kRs0 (some .boolean) qPL qPostL 9 (lfc 70) qGL none 600 (((((((((((((qLX.drop 1).drop 1).drop 1).drop 3).drop 3).drop 3).drop 3).drop 3).drop 3).drop 3).drop 3).drop 3).take 3) = true := by decide +kernel
set_option maxRecDepth 16384 in
theorem qLS_13 : expl qEnv qPh qCSL qModB true 7 kRc0 kRs0 (some .boolean) qPL qPostL 9 (lfc 70) qGL none 600 ((((((((((((((qLX.drop 1).drop 1).drop 1).drop 3).drop 3).drop 3).drop 3).drop 3).drop 3).drop 3).drop 3).drop 3).drop 3).take 1) = true := by decide +kernel
set_option maxRecDepth 16384 in
theorem qLS_14 : expl qEnv qPh qCSL qModB true 7 kRc0 kRs0 (some .boolean) qPL qPostL 9 (lfc 70) qGL none 600 (((((((((((((((qLX.drop 1).drop 1).drop 1).drop 3).drop 3).drop 3).drop 3).drop 3).drop 3).drop 3).drop 3).drop 3).drop 3).drop 1).take 1) = true := by decide +kernel
set_option maxRecDepth 16384 in
theorem qLS_15 : expl qEnv qPh qCSL qModB true 7 kRc0 kRs0 (some .boolean) qPL qPostL 9 (lfc 70) qGL none 600 ((((((((((((((((qLX.drop 1).drop 1).drop 1).drop 3).drop 3).drop 3).drop 3).drop 3).drop 3).drop 3).drop 3).drop 3).drop 3).drop 1).drop 1).take 1) = true := by decide +kernel
set_option maxRecDepth 16384 in
theorem qLS_16 : expl qEnv qPh qCSL qModB true 7 kRc0 kRs0 (some .boolean) qPL qPostL 9 (lfc 70) qGL none 600 ((((((((((((((((qLX.drop 1).drop 1).drop 1).drop 3).drop 3).drop 3).drop 3).drop 3).drop 3).drop 3).drop 3).drop 3).drop 3).drop 1).drop 1).drop 1) = true := by decide +kernel
set_option maxRecDepth 16384 in
theorem qLR : expl qEnv qPh qCSL qModB true 7 kRc0 kRs0 (some .boolean) qPL qPostL 9 (lfc 70) qGL none 10200 qLX = true := (expl_take 1 qLS_0 (expl_take 1 qLS_1 (expl_take 1 qLS_2 (expl_take 3 qLS_3 (expl_take 3 qLS_4 (expl_take 3 qLS_5 (expl_take 3 qLS_6 (expl_take 3 qLS_7 (expl_take 3 qLS_8 (expl_take 3 qLS_9 (expl_take 3 qLS_10 (expl_take 3 qLS_11 (expl_take 3 qLS_12 (expl_take 1 qLS_13 (expl_take 1 qLS_14 (expl_take 1 qLS_15 qLS_16))))))))))))))))
set_option maxRecDepth 16384 in
theorem qLEx : expl qEnv qPh qCSL qModB true 7 kRc0 kRs0 (some .boolean) qPL qPostL 9 (lfc 70) qGL none 10213 qLA = true := expn_ok (f := 10199) 13 _ _ (osome qLX_s []) qLR
set_option maxRecDepth 16384 in
theorem qLA_eq : aproc qEnv qPh qCSL qModB true 7 kRc0 kRs0 (some .boolean) qPL qPostL 9 (lfc 70) qGL none true 23 qS0 = some qLA := osome qLA_s []
set_option maxRecDepth 16384 in
theorem qLE : ∃ f, expl qEnv qPh qCSL qModB true 7 kRc0 kRs0 (some .boolean) qPL qPostL 9 (lfc 70) qGL none f qLA = true := ⟨_, qLEx⟩
set_option maxRecDepth 16384 in
/-- one step at a place, told which contracts -/
def qstp (pc : Nat) (mods : MOD) (cl : List Nat) (S : AS) : Option (List (Nat × AS)) := match kat qPL pc with
  | some e => astp qEnv qPh qCSL mods true 7 kRc0 kRs0 (lfc 70) cl e.1 e.2 pc S
  | none => none
set_option maxRecDepth 16384 in
def qF1 : List (Nat × AS) := (qstp 247 qModFA [15] qSF).getD []
set_option maxRecDepth 16384 in
theorem qF1_s : (qstp 247 qModFA [15] qSF).isSome = true := by decide +kernel
set_option maxRecDepth 16384 in
theorem qF1_e : qstp 247 qModFA [15] qSF = some qF1 := osome qF1_s []
set_option maxRecDepth 16384 in
theorem qF1_x : expl qEnv qPh qCSL [] true 7 kRc0 kRs0 (some .boolean) qPL qPostL 9 (lfc 70) qGFb none 600 qF1 = true := by decide +kernel
set_option maxRecDepth 16384 in
def qF2a : List (Nat × AS) := (qstp 282 qModFB [210] qSFa).getD []
set_option maxRecDepth 16384 in
theorem qF2a_s : (qstp 282 qModFB [210] qSFa).isSome = true := by decide +kernel
set_option maxRecDepth 16384 in
theorem qF2a_e : qstp 282 qModFB [210] qSFa = some qF2a := osome qF2a_s []
set_option maxRecDepth 16384 in
theorem qF2a_x : expl qEnv qPh qCSL [] true 7 kRc0 kRs0 (some .boolean) qPL qPostL 9 (lfc 70) qGH none 600 qF2a = true := by decide +kernel
set_option maxRecDepth 16384 in
def qF2b : List (Nat × AS) := (qstp 282 qModFB [210] qSFb).getD []
set_option maxRecDepth 16384 in
theorem qF2b_s : (qstp 282 qModFB [210] qSFb).isSome = true := by decide +kernel
set_option maxRecDepth 16384 in
theorem qF2b_e : qstp 282 qModFB [210] qSFb = some qF2b := osome qF2b_s []
set_option maxRecDepth 16384 in
theorem qF2b_x : expl qEnv qPh qCSL [] true 7 kRc0 kRs0 (some .boolean) qPL qPostL 9 (lfc 70) qGH none 600 qF2b = true := by decide +kernel
set_option maxRecDepth 16384 in
def qfO1 : List (Nat × AS) := (qstp 315 qModOA [25] qSO).getD []
set_option maxRecDepth 16384 in
theorem qfO1_s : (qstp 315 qModOA [25] qSO).isSome = true := by decide +kernel
set_option maxRecDepth 16384 in
theorem qfO1_e : qstp 315 qModOA [25] qSO = some qfO1 := osome qfO1_s []
set_option maxRecDepth 16384 in
theorem qfO1_c : qfO1.all (fun q => acut qEnv 9 none q.1 q.2 qGO1) = true := by decide +kernel
set_option maxRecDepth 16384 in
def qfO2 : List (Nat × AS) := (qstp 318 [] [] qSO1).getD []
set_option maxRecDepth 16384 in
theorem qfO2_s : (qstp 318 [] [] qSO1).isSome = true := by decide +kernel
set_option maxRecDepth 16384 in
theorem qfO2_e : qstp 318 [] [] qSO1 = some qfO2 := osome qfO2_s []
set_option maxRecDepth 16384 in
theorem qfO2_c : qfO2.all (fun q => acut qEnv 10 none q.1 q.2 qGOP) = true := by decide +kernel
set_option maxRecDepth 16384 in
def qfO3 : List (Nat × AS) := (qstp 319 qModOB [278] qSP).getD []
set_option maxRecDepth 16384 in
theorem qfO3_s : (qstp 319 qModOB [278] qSP).isSome = true := by decide +kernel
set_option maxRecDepth 16384 in
theorem qfO3_e : qstp 319 qModOB [278] qSP = some qfO3 := osome qfO3_s []
set_option maxRecDepth 16384 in
theorem qfO3_c : qfO3.all (fun q => acut qEnv 10 none q.1 q.2 qGOC) = true := by decide +kernel
set_option maxRecDepth 16384 in
def qfO4 : List (Nat × AS) := (aproc qEnv qPh qCSL [] true 7 kRc0 kRs0 (some .boolean) qPL qPostL 9 (lfc 70) qGH none true 322 qSC).getD []
set_option maxRecDepth 16384 in
theorem qfO4_s : (aproc qEnv qPh qCSL [] true 7 kRc0 kRs0 (some .boolean) qPL qPostL 9 (lfc 70) qGH none true 322 qSC).isSome = true := by decide +kernel
set_option maxRecDepth 16384 in
theorem qfO4_e : aproc qEnv qPh qCSL [] true 7 kRc0 kRs0 (some .boolean) qPL qPostL 9 (lfc 70) qGH none true 322 qSC = some qfO4 := osome qfO4_s []
set_option maxRecDepth 16384 in
theorem qfO4_x : expl qEnv qPh qCSL [] true 7 kRc0 kRs0 (some .boolean) qPL qPostL 9 (lfc 70) qGH none 600 qfO4 = true := by decide +kernel
