/-! One round of the law's loop, checked in shares. -/
set_option maxRecDepth 16384 in
def qLA : List (Nat × AS) := (aproc qEnv qPh qCSL qModC true 7 kRc0 kRs0 (some .boolean) qPL qPostL 9 (lfc 70) qGL none true 23 qS0).getD []
set_option maxRecDepth 16384 in
def qLX : List (Nat × AS) := (expn qEnv qPh qCSL qModC true 7 kRc0 kRs0 (some .boolean) qPL qPostL 9 (lfc 70) qGL none 13 qLA).getD []
set_option maxRecDepth 16384 in
theorem qLA_s : (aproc qEnv qPh qCSL qModC true 7 kRc0 kRs0 (some .boolean) qPL qPostL 9 (lfc 70) qGL none true 23 qS0).isSome = true := by decide +kernel
set_option maxRecDepth 16384 in
theorem qLX_s : (expn qEnv qPh qCSL qModC true 7 kRc0 kRs0 (some .boolean) qPL qPostL 9 (lfc 70) qGL none 13 qLA).isSome = true := by decide +kernel
set_option maxRecDepth 16384 in
theorem qLS_0 : expl qEnv qPh qCSL qModC true 7 kRc0 kRs0 (some .boolean) qPL qPostL 9 (lfc 70) qGL none 600 (qLX.take 1) = true := by decide +kernel
set_option maxRecDepth 16384 in
theorem qLS_1 : expl qEnv qPh qCSL qModC true 7 kRc0 kRs0 (some .boolean) qPL qPostL 9 (lfc 70) qGL none 600 ((qLX.drop 1).take 1) = true := by decide +kernel
set_option maxRecDepth 16384 in
theorem qLS_2 : expl qEnv qPh qCSL qModC true 7 kRc0 kRs0 (some .boolean) qPL qPostL 9 (lfc 70) qGL none 600 (((qLX.drop 1).drop 1).take 1) = true := by decide +kernel
set_option maxRecDepth 16384 in
theorem qLS_3 : expl qEnv qPh qCSL qModC true 7 kRc0 kRs0 (some .boolean) qPL qPostL 9 (lfc 70) qGL none 600 ((((qLX.drop 1).drop 1).drop 1).take 3) = true := by decide +kernel
set_option maxRecDepth 16384 in
theorem qLS_4 : expl qEnv qPh qCSL qModC true 7 kRc0 kRs0 (some .boolean) qPL qPostL 9 (lfc 70) qGL none 600 (((((qLX.drop 1).drop 1).drop 1).drop 3).take 3) = true := by decide +kernel
set_option maxRecDepth 16384 in
theorem qLS_5 : expl qEnv qPh qCSL qModC true 7 kRc0 kRs0 (some .boolean) qPL qPostL 9 (lfc 70) qGL none 600 ((((((qLX.drop 1).drop 1).drop 1).drop 3).drop 3).take 3) = true := by decide +kernel
set_option maxRecDepth 16384 in
theorem qLS_6 : expl qEnv qPh qCSL qModC true 7 kRc0 kRs0 (some .boolean) qPL qPostL 9 (lfc 70) qGL none 600 (((((((qLX.drop 1).drop 1).drop 1).drop 3).drop 3).drop 3).take 3) = true := by decide +kernel
set_option maxRecDepth 16384 in
theorem qLS_7 : expl qEnv qPh qCSL qModC true 7 kRc0 kRs0 (some .boolean) qPL qPostL 9 (lfc 70) qGL none 600 ((((((((qLX.drop 1).drop 1).drop 1).drop 3).drop 3).drop 3).drop 3).take 3) = true := by decide +kernel
set_option maxRecDepth 16384 in
theorem qLS_8 : expl qEnv qPh qCSL qModC true 7 kRc0 kRs0 (some .boolean) qPL qPostL 9 (lfc 70) qGL none 600 (((((((((qLX.drop 1).drop 1).drop 1).drop 3).drop 3).drop 3).drop 3).drop 3).take 3) = true := by decide +kernel
set_option maxRecDepth 16384 in
theorem qLS_9 : expl qEnv qPh qCSL qModC true 7 kRc0 kRs0 (some .boolean) qPL qPostL 9 (lfc 70) qGL none 600 ((((((((((qLX.drop 1).drop 1).drop 1).drop 3).drop 3).drop 3).drop 3).drop 3).drop 3).take 3) = true := by decide +kernel
set_option maxRecDepth 16384 in
theorem qLS_10 : expl qEnv qPh qCSL qModC true 7 kRc0 kRs0 (some .boolean) qPL qPostL 9 (lfc 70) qGL none 600 (((((((((((qLX.drop 1).drop 1).drop 1).drop 3).drop 3).drop 3).drop 3).drop 3).drop 3).drop 3).take 3) = true := by decide +kernel
set_option maxRecDepth 16384 in
theorem qLS_11 : expl qEnv qPh qCSL qModC true 7 kRc0 kRs0 (some .boolean) qPL qPostL 9 (lfc 70) qGL none 600 ((((((((((((qLX.drop 1).drop 1).drop 1).drop 3).drop 3).drop 3).drop 3).drop 3).drop 3).drop 3).drop 3).take 3) = true := by decide +kernel
set_option maxRecDepth 16384 in
theorem qLS_12 : expl qEnv qPh qCSL qModC true 7 kRc0 kRs0 (some .boolean) qPL qPostL 9 (lfc 70) qGL none 600 (((((((((((((qLX.drop 1).drop 1).drop 1).drop 3).drop 3).drop 3).drop 3).drop 3).drop 3).drop 3).drop 3).drop 3).take 3) = true := by decide +kernel
set_option maxRecDepth 16384 in
theorem qLS_13 : expl qEnv qPh qCSL qModC true 7 kRc0 kRs0 (some .boolean) qPL qPostL 9 (lfc 70) qGL none 600 ((((((((((((((qLX.drop 1).drop 1).drop 1).drop 3).drop 3).drop 3).drop 3).drop 3).drop 3).drop 3).drop 3).drop 3).drop 3).take 1) = true := by decide +kernel
set_option maxRecDepth 16384 in
theorem qLS_14 : expl qEnv qPh qCSL qModC true 7 kRc0 kRs0 (some .boolean) qPL qPostL 9 (lfc 70) qGL none 600 (((((((((((((((qLX.drop 1).drop 1).drop 1).drop 3).drop 3).drop 3).drop 3).drop 3).drop 3).drop 3).drop 3).drop 3).drop 3).drop 1).take 1) = true := by decide +kernel
set_option maxRecDepth 16384 in
theorem qLS_15 : expl qEnv qPh qCSL qModC true 7 kRc0 kRs0 (some .boolean) qPL qPostL 9 (lfc 70) qGL none 600 ((((((((((((((((qLX.drop 1).drop 1).drop 1).drop 3).drop 3).drop 3).drop 3).drop 3).drop 3).drop 3).drop 3).drop 3).drop 3).drop 1).drop 1).take 1) = true := by decide +kernel
set_option maxRecDepth 16384 in
theorem qLS_16 : expl qEnv qPh qCSL qModC true 7 kRc0 kRs0 (some .boolean) qPL qPostL 9 (lfc 70) qGL none 600 ((((((((((((((((qLX.drop 1).drop 1).drop 1).drop 3).drop 3).drop 3).drop 3).drop 3).drop 3).drop 3).drop 3).drop 3).drop 3).drop 1).drop 1).drop 1) = true := by decide +kernel
set_option maxRecDepth 16384 in
theorem qLR : expl qEnv qPh qCSL qModC true 7 kRc0 kRs0 (some .boolean) qPL qPostL 9 (lfc 70) qGL none 10200 qLX = true := (expl_take 1 qLS_0 (expl_take 1 qLS_1 (expl_take 1 qLS_2 (expl_take 3 qLS_3 (expl_take 3 qLS_4 (expl_take 3 qLS_5 (expl_take 3 qLS_6 (expl_take 3 qLS_7 (expl_take 3 qLS_8 (expl_take 3 qLS_9 (expl_take 3 qLS_10 (expl_take 3 qLS_11 (expl_take 3 qLS_12 (expl_take 1 qLS_13 (expl_take 1 qLS_14 (expl_take 1 qLS_15 qLS_16))))))))))))))))
set_option maxRecDepth 16384 in
theorem qLEx : expl qEnv qPh qCSL qModC true 7 kRc0 kRs0 (some .boolean) qPL qPostL 9 (lfc 70) qGL none 10213 qLA = true := expn_ok (f := 10199) 13 _ _ (osome qLX_s []) qLR
set_option maxRecDepth 16384 in
theorem qLA_eq : aproc qEnv qPh qCSL qModC true 7 kRc0 kRs0 (some .boolean) qPL qPostL 9 (lfc 70) qGL none true 23 qS0 = some qLA := osome qLA_s []
set_option maxRecDepth 16384 in
theorem qLE : ∃ f, expl qEnv qPh qCSL qModC true 7 kRc0 kRs0 (some .boolean) qPL qPostL 9 (lfc 70) qGL none f qLA = true := ⟨_, qLEx⟩
set_option maxRecDepth 16384 in
/-- one step at a place, told which contracts -/
def qstp (pc : Nat) (mods : MOD) (cl : List Nat) (S : AS) : Option (List (Nat × AS)) := match kat qPL pc with
  | some e => astp qEnv qPh qCSL mods true 7 kRc0 kRs0 (lfc 70) cl e.1 e.2 pc S
  | none => none
set_option maxRecDepth 16384 in
def qF1 : List (Nat × AS) := (qstp 247 qModFA [15] qSF).getD []
set_option maxRecDepth 16384 in
theorem qF1_s : (qstp 247 qModFA [15] qSF).isSome = true := by decide +kernel
set_option maxRecDepth 16384 in
theorem qF1_e : qstp 247 qModFA [15] qSF = some qF1 := osome qF1_s []
set_option maxRecDepth 16384 in
theorem qF1_x : expl qEnv qPh qCSL [] true 7 kRc0 kRs0 (some .boolean) qPL qPostL 9 (lfc 70) qGFb none 600 qF1 = true := by decide +kernel
set_option maxRecDepth 16384 in
def qF2a : List (Nat × AS) := (qstp 282 qModFB [210] qSFa).getD []
set_option maxRecDepth 16384 in
theorem qF2a_s : (qstp 282 qModFB [210] qSFa).isSome = true := by decide +kernel
set_option maxRecDepth 16384 in
theorem qF2a_e : qstp 282 qModFB [210] qSFa = some qF2a := osome qF2a_s []
set_option maxRecDepth 16384 in
theorem qF2a_x : expl qEnv qPh qCSL [] true 7 kRc0 kRs0 (some .boolean) qPL qPostL 9 (lfc 70) qGH none 600 qF2a = true := by decide +kernel
set_option maxRecDepth 16384 in
def qF2b : List (Nat × AS) := (qstp 282 qModFB [210] qSFb).getD []
set_option maxRecDepth 16384 in
theorem qF2b_s : (qstp 282 qModFB [210] qSFb).isSome = true := by decide +kernel
set_option maxRecDepth 16384 in
theorem qF2b_e : qstp 282 qModFB [210] qSFb = some qF2b := osome qF2b_s []
set_option maxRecDepth 16384 in
theorem qF2b_x : expl qEnv qPh qCSL [] true 7 kRc0 kRs0 (some .boolean) qPL qPostL 9 (lfc 70) qGH none 600 qF2b = true := by decide +kernel
set_option maxRecDepth 16384 in
def qA_sign : List (Nat × AS) := (qstp 495 qMA_sign [33] qS_sign).getD []
set_option maxRecDepth 16384 in
theorem qA_sign_s : (qstp 495 qMA_sign [33] qS_sign).isSome = true := by decide +kernel
set_option maxRecDepth 16384 in
theorem qA_sign_e : qstp 495 qMA_sign [33] qS_sign = some qA_sign := osome qA_sign_s []
set_option maxRecDepth 16384 in
theorem qA_sign_x : expl qEnv qPh qCSL [] true 7 kRc0 kRs0 (some .boolean) qPL qPostL 9 (lfc 70) (qGB_sign, [], [], []) none 600 qA_sign = true := by decide +kernel
set_option maxRecDepth 16384 in
def qB0_sign : List (Nat × AS) := (qstp 512 qMB_sign [329] qSB0_sign).getD []
set_option maxRecDepth 16384 in
theorem qB0_sign_s : (qstp 512 qMB_sign [329] qSB0_sign).isSome = true := by decide +kernel
set_option maxRecDepth 16384 in
theorem qB0_sign_e : qstp 512 qMB_sign [329] qSB0_sign = some qB0_sign := osome qB0_sign_s []
set_option maxRecDepth 16384 in
theorem qB0_sign_x : expl qEnv qPh qCSL [] true 7 kRc0 kRs0 (some .boolean) qPL qPostL 9 (lfc 70) qGH none 600 qB0_sign = true := by decide +kernel
set_option maxRecDepth 16384 in
def qA_soften : List (Nat × AS) := (qstp 532 qMA_soften [34] qS_soften).getD []
set_option maxRecDepth 16384 in
theorem qA_soften_s : (qstp 532 qMA_soften [34] qS_soften).isSome = true := by decide +kernel
set_option maxRecDepth 16384 in
theorem qA_soften_e : qstp 532 qMA_soften [34] qS_soften = some qA_soften := osome qA_soften_s []
set_option maxRecDepth 16384 in
theorem qA_soften_x : expl qEnv qPh qCSL [] true 7 kRc0 kRs0 (some .boolean) qPL qPostL 9 (lfc 70) (qGB_soften, [], [], []) none 600 qA_soften = true := by decide +kernel
set_option maxRecDepth 16384 in
def qB0_soften : List (Nat × AS) := (qstp 549 qMB_soften [334] qSB0_soften).getD []
set_option maxRecDepth 16384 in
theorem qB0_soften_s : (qstp 549 qMB_soften [334] qSB0_soften).isSome = true := by decide +kernel
set_option maxRecDepth 16384 in
theorem qB0_soften_e : qstp 549 qMB_soften [334] qSB0_soften = some qB0_soften := osome qB0_soften_s []
set_option maxRecDepth 16384 in
theorem qB0_soften_x : expl qEnv qPh qCSL [] true 7 kRc0 kRs0 (some .boolean) qPL qPostL 9 (lfc 70) qGH none 600 qB0_soften = true := by decide +kernel
set_option maxRecDepth 16384 in
def qA_resent : List (Nat × AS) := (qstp 569 qMA_resent [27] qS_resent).getD []
set_option maxRecDepth 16384 in
theorem qA_resent_s : (qstp 569 qMA_resent [27] qS_resent).isSome = true := by decide +kernel
set_option maxRecDepth 16384 in
theorem qA_resent_e : qstp 569 qMA_resent [27] qS_resent = some qA_resent := osome qA_resent_s []
set_option maxRecDepth 16384 in
theorem qA_resent_x : expl qEnv qPh qCSL [] true 7 kRc0 kRs0 (some .boolean) qPL qPostL 9 (lfc 70) (qGB_resent, [], [], []) none 600 qA_resent = true := by decide +kernel
set_option maxRecDepth 16384 in
def qB0_resent : List (Nat × AS) := (qstp 586 qMB_resent [318] qSB0_resent).getD []
set_option maxRecDepth 16384 in
theorem qB0_resent_s : (qstp 586 qMB_resent [318] qSB0_resent).isSome = true := by decide +kernel
set_option maxRecDepth 16384 in
theorem qB0_resent_e : qstp 586 qMB_resent [318] qSB0_resent = some qB0_resent := osome qB0_resent_s []
set_option maxRecDepth 16384 in
theorem qB0_resent_x : expl qEnv qPh qCSL [] true 7 kRc0 kRs0 (some .boolean) qPL qPostL 9 (lfc 70) qGH none 600 qB0_resent = true := by decide +kernel
set_option maxRecDepth 16384 in
def qA_retire : List (Nat × AS) := (qstp 600 qMA_retire [29] qS_retire).getD []
set_option maxRecDepth 16384 in
theorem qA_retire_s : (qstp 600 qMA_retire [29] qS_retire).isSome = true := by decide +kernel
set_option maxRecDepth 16384 in
theorem qA_retire_e : qstp 600 qMA_retire [29] qS_retire = some qA_retire := osome qA_retire_s []
set_option maxRecDepth 16384 in
theorem qA_retire_x : expl qEnv qPh qCSL [] true 7 kRc0 kRs0 (some .boolean) qPL qPostL 9 (lfc 70) (qGB_retire, [], [], []) none 600 qA_retire = true := by decide +kernel
set_option maxRecDepth 16384 in
def qB0_retire : List (Nat × AS) := (qstp 611 qMB_retire [320] qSB0_retire).getD []
set_option maxRecDepth 16384 in
theorem qB0_retire_s : (qstp 611 qMB_retire [320] qSB0_retire).isSome = true := by decide +kernel
set_option maxRecDepth 16384 in
theorem qB0_retire_e : qstp 611 qMB_retire [320] qSB0_retire = some qB0_retire := osome qB0_retire_s []
set_option maxRecDepth 16384 in
theorem qB0_retire_x : expl qEnv qPh qCSL [] true 7 kRc0 kRs0 (some .boolean) qPL qPostL 9 (lfc 70) qGH none 600 qB0_retire = true := by decide +kernel
set_option maxRecDepth 16384 in
def qA_cancel : List (Nat × AS) := (qstp 650 qMA_cancel [6] qS_cancel).getD []
set_option maxRecDepth 16384 in
theorem qA_cancel_s : (qstp 650 qMA_cancel [6] qS_cancel).isSome = true := by decide +kernel
set_option maxRecDepth 16384 in
theorem qA_cancel_e : qstp 650 qMA_cancel [6] qS_cancel = some qA_cancel := osome qA_cancel_s []
set_option maxRecDepth 16384 in
theorem qA_cancel_x : expl qEnv qPh qCSL [] true 7 kRc0 kRs0 (some .boolean) qPL qPostL 9 (lfc 70) (qGB_cancel, [], [], []) none 600 qA_cancel = true := by decide +kernel
set_option maxRecDepth 16384 in
def qB0_cancel : List (Nat × AS) := (qstp 661 qMB_cancel [196] qSB0_cancel).getD []
set_option maxRecDepth 16384 in
theorem qB0_cancel_s : (qstp 661 qMB_cancel [196] qSB0_cancel).isSome = true := by decide +kernel
set_option maxRecDepth 16384 in
theorem qB0_cancel_e : qstp 661 qMB_cancel [196] qSB0_cancel = some qB0_cancel := osome qB0_cancel_s []
set_option maxRecDepth 16384 in
theorem qB0_cancel_x : expl qEnv qPh qCSL [] true 7 kRc0 kRs0 (some .boolean) qPL qPostL 9 (lfc 70) qGH none 600 qB0_cancel = true := by decide +kernel
set_option maxRecDepth 16384 in
def qA_lodge : List (Nat × AS) := (qstp 675 qMA_lodge [19] qS_lodge).getD []
set_option maxRecDepth 16384 in
theorem qA_lodge_s : (qstp 675 qMA_lodge [19] qS_lodge).isSome = true := by decide +kernel
set_option maxRecDepth 16384 in
theorem qA_lodge_e : qstp 675 qMA_lodge [19] qS_lodge = some qA_lodge := osome qA_lodge_s []
set_option maxRecDepth 16384 in
theorem qA_lodge_x : expl qEnv qPh qCSL [] true 7 kRc0 kRs0 (some .boolean) qPL qPostL 9 (lfc 70) (qGB_lodge, [], [], []) none 600 qA_lodge = true := by decide +kernel
set_option maxRecDepth 16384 in
def qB0_lodge : List (Nat × AS) := (qstp 686 qMB_lodge [271] qSB0_lodge).getD []
set_option maxRecDepth 16384 in
theorem qB0_lodge_s : (qstp 686 qMB_lodge [271] qSB0_lodge).isSome = true := by decide +kernel
set_option maxRecDepth 16384 in
theorem qB0_lodge_e : qstp 686 qMB_lodge [271] qSB0_lodge = some qB0_lodge := osome qB0_lodge_s []
set_option maxRecDepth 16384 in
theorem qB0_lodge_x : expl qEnv qPh qCSL [] true 7 kRc0 kRs0 (some .boolean) qPL qPostL 9 (lfc 70) qGH none 600 qB0_lodge = true := by decide +kernel
set_option maxRecDepth 16384 in
def qA_days : List (Nat × AS) := (qstp 700 qMA_days [10] qS_days).getD []
set_option maxRecDepth 16384 in
theorem qA_days_s : (qstp 700 qMA_days [10] qS_days).isSome = true := by decide +kernel
set_option maxRecDepth 16384 in
theorem qA_days_e : qstp 700 qMA_days [10] qS_days = some qA_days := osome qA_days_s []
set_option maxRecDepth 16384 in
theorem qA_days_x : expl qEnv qPh qCSL [] true 7 kRc0 kRs0 (some .boolean) qPL qPostL 9 (lfc 70) (qGB_days, [], [], []) none 600 qA_days = true := by decide +kernel
set_option maxRecDepth 16384 in
def qB0_days : List (Nat × AS) := (qstp 711 qMB_days [201] qSB0_days).getD []
set_option maxRecDepth 16384 in
theorem qB0_days_s : (qstp 711 qMB_days [201] qSB0_days).isSome = true := by decide +kernel
set_option maxRecDepth 16384 in
theorem qB0_days_e : qstp 711 qMB_days [201] qSB0_days = some qB0_days := osome qB0_days_s []
set_option maxRecDepth 16384 in
theorem qB0_days_x : expl qEnv qPh qCSL [] true 7 kRc0 kRs0 (some .boolean) qPL qPostL 9 (lfc 70) qGH none 600 qB0_days = true := by decide +kernel
set_option maxRecDepth 16384 in
def qA_undo : List (Nat × AS) := (qstp 719 qMA_undo [37] qS_undo).getD []
set_option maxRecDepth 16384 in
theorem qA_undo_s : (qstp 719 qMA_undo [37] qS_undo).isSome = true := by decide +kernel
set_option maxRecDepth 16384 in
theorem qA_undo_e : qstp 719 qMA_undo [37] qS_undo = some qA_undo := osome qA_undo_s []
set_option maxRecDepth 16384 in
theorem qA_undo_x : expl qEnv qPh qCSL [] true 7 kRc0 kRs0 (some .boolean) qPL qPostL 9 (lfc 70) (qGB_undo, [], [], []) none 600 qA_undo = true := by decide +kernel
set_option maxRecDepth 16384 in
def qB0_undo : List (Nat × AS) := (qstp 724 qMB_undo [378] qSB0_undo).getD []
set_option maxRecDepth 16384 in
theorem qB0_undo_s : (qstp 724 qMB_undo [378] qSB0_undo).isSome = true := by decide +kernel
set_option maxRecDepth 16384 in
theorem qB0_undo_e : qstp 724 qMB_undo [378] qSB0_undo = some qB0_undo := osome qB0_undo_s []
set_option maxRecDepth 16384 in
theorem qB0_undo_x : expl qEnv qPh qCSL [] true 7 kRc0 kRs0 (some .boolean) qPL qPostL 9 (lfc 70) qGH none 600 qB0_undo = true := by decide +kernel
set_option maxRecDepth 16384 in
def qA_drawn : List (Nat × AS) := (qstp 1046 qMA_drawn [11] qS_drawn).getD []
set_option maxRecDepth 16384 in
theorem qA_drawn_s : (qstp 1046 qMA_drawn [11] qS_drawn).isSome = true := by decide +kernel
set_option maxRecDepth 16384 in
theorem qA_drawn_e : qstp 1046 qMA_drawn [11] qS_drawn = some qA_drawn := osome qA_drawn_s []
set_option maxRecDepth 16384 in
theorem qA_drawn_x : expl qEnv qPh qCSL [] true 7 kRc0 kRs0 (some .boolean) qPL qPostL 9 (lfc 70) (qGB_drawn, [], [], []) none 600 qA_drawn = true := by decide +kernel
set_option maxRecDepth 16384 in
def qB0_drawn : List (Nat × AS) := (qstp 1063 qMB_drawn [205] qSB0_drawn).getD []
set_option maxRecDepth 16384 in
theorem qB0_drawn_s : (qstp 1063 qMB_drawn [205] qSB0_drawn).isSome = true := by decide +kernel
set_option maxRecDepth 16384 in
theorem qB0_drawn_e : qstp 1063 qMB_drawn [205] qSB0_drawn = some qB0_drawn := osome qB0_drawn_s []
set_option maxRecDepth 16384 in
theorem qB0_drawn_x : expl qEnv qPh qCSL [] true 7 kRc0 kRs0 (some .boolean) qPL qPostL 9 (lfc 70) qGH none 600 qB0_drawn = true := by decide +kernel
set_option maxRecDepth 16384 in
def qA_odds : List (Nat × AS) := (qstp 1089 qMA_odds [24] qS_odds).getD []
set_option maxRecDepth 16384 in
theorem qA_odds_s : (qstp 1089 qMA_odds [24] qS_odds).isSome = true := by decide +kernel
set_option maxRecDepth 16384 in
theorem qA_odds_e : qstp 1089 qMA_odds [24] qS_odds = some qA_odds := osome qA_odds_s []
set_option maxRecDepth 16384 in
theorem qA_odds_x : expl qEnv qPh qCSL [] true 7 kRc0 kRs0 (some .boolean) qPL qPostL 9 (lfc 70) (qGB_odds, [], [], []) none 600 qA_odds = true := by decide +kernel
set_option maxRecDepth 16384 in
def qB0_odds : List (Nat × AS) := (qstp 1112 qMB_odds [277] qSB0_odds).getD []
set_option maxRecDepth 16384 in
theorem qB0_odds_s : (qstp 1112 qMB_odds [277] qSB0_odds).isSome = true := by decide +kernel
set_option maxRecDepth 16384 in
theorem qB0_odds_e : qstp 1112 qMB_odds [277] qSB0_odds = some qB0_odds := osome qB0_odds_s []
set_option maxRecDepth 16384 in
theorem qB0_odds_x : expl qEnv qPh qCSL [] true 7 kRc0 kRs0 (some .boolean) qPL qPostL 9 (lfc 70) qGH none 600 qB0_odds = true := by decide +kernel
set_option maxRecDepth 16384 in
def qA_image : List (Nat × AS) := (qstp 1214 qMA_image [18] qS_image).getD []
set_option maxRecDepth 16384 in
theorem qA_image_s : (qstp 1214 qMA_image [18] qS_image).isSome = true := by decide +kernel
set_option maxRecDepth 16384 in
theorem qA_image_e : qstp 1214 qMA_image [18] qS_image = some qA_image := osome qA_image_s []
set_option maxRecDepth 16384 in
theorem qA_image_x : expl qEnv qPh qCSL [] true 7 kRc0 kRs0 (some .boolean) qPL qPostL 9 (lfc 70) (qGB_image, [], [], []) none 600 qA_image = true := by decide +kernel
set_option maxRecDepth 16384 in
def qB0_image : List (Nat × AS) := (qstp 1225 qMB_image [226] qSB0_image).getD []
set_option maxRecDepth 16384 in
theorem qB0_image_s : (qstp 1225 qMB_image [226] qSB0_image).isSome = true := by decide +kernel
set_option maxRecDepth 16384 in
theorem qB0_image_e : qstp 1225 qMB_image [226] qSB0_image = some qB0_image := osome qB0_image_s []
set_option maxRecDepth 16384 in
theorem qB0_image_x : expl qEnv qPh qCSL [] true 7 kRc0 kRs0 (some .boolean) qPL qPostL 9 (lfc 70) qGH none 600 qB0_image = true := by decide +kernel
set_option maxRecDepth 16384 in
def qA_restore : List (Nat × AS) := (qstp 1239 qMA_restore [28] qS_restore).getD []
set_option maxRecDepth 16384 in
theorem qA_restore_s : (qstp 1239 qMA_restore [28] qS_restore).isSome = true := by decide +kernel
set_option maxRecDepth 16384 in
theorem qA_restore_e : qstp 1239 qMA_restore [28] qS_restore = some qA_restore := osome qA_restore_s []
set_option maxRecDepth 16384 in
theorem qA_restore_x : expl qEnv qPh qCSL [] true 7 kRc0 kRs0 (some .boolean) qPL qPostL 9 (lfc 70) (qGB_restore, [], [], []) none 600 qA_restore = true := by decide +kernel
set_option maxRecDepth 16384 in
def qB0_restore : List (Nat × AS) := (qstp 1250 qMB_restore [319] qSB0_restore).getD []
set_option maxRecDepth 16384 in
theorem qB0_restore_s : (qstp 1250 qMB_restore [319] qSB0_restore).isSome = true := by decide +kernel
set_option maxRecDepth 16384 in
theorem qB0_restore_e : qstp 1250 qMB_restore [319] qSB0_restore = some qB0_restore := osome qB0_restore_s []
set_option maxRecDepth 16384 in
theorem qB0_restore_x : expl qEnv qPh qCSL [] true 7 kRc0 kRs0 (some .boolean) qPL qPostL 9 (lfc 70) qGH none 600 qB0_restore = true := by decide +kernel
set_option maxRecDepth 16384 in
def qA_office : List (Nat × AS) := (qstp 315 qMA_office [25] qS_office).getD []
set_option maxRecDepth 16384 in
theorem qA_office_s : (qstp 315 qMA_office [25] qS_office).isSome = true := by decide +kernel
set_option maxRecDepth 16384 in
theorem qA_office_e : qstp 315 qMA_office [25] qS_office = some qA_office := osome qA_office_s []
set_option maxRecDepth 16384 in
theorem qA_office_x : expl qEnv qPh qCSL [] true 7 kRc0 kRs0 (some .boolean) qPL qPostL 9 (lfc 70) (qGB_office, [], [], []) none 600 qA_office = true := by decide +kernel
set_option maxRecDepth 16384 in
def qB0_office : List (Nat × AS) := (qstp 320 qMB_office [278] qSB0_office).getD []
set_option maxRecDepth 16384 in
theorem qB0_office_s : (qstp 320 qMB_office [278] qSB0_office).isSome = true := by decide +kernel
set_option maxRecDepth 16384 in
theorem qB0_office_e : qstp 320 qMB_office [278] qSB0_office = some qB0_office := osome qB0_office_s []
set_option maxRecDepth 16384 in
theorem qB0_office_x : expl qEnv qPh qCSL [] true 7 kRc0 kRs0 (some .boolean) qPL qPostL 9 (lfc 70) qGH none 600 qB0_office = true := by decide +kernel
set_option maxRecDepth 16384 in
def qA_book : List (Nat × AS) := (qstp 1126 qMA_book [3] qS_book).getD []
set_option maxRecDepth 16384 in
theorem qA_book_s : (qstp 1126 qMA_book [3] qS_book).isSome = true := by decide +kernel
set_option maxRecDepth 16384 in
theorem qA_book_e : qstp 1126 qMA_book [3] qS_book = some qA_book := osome qA_book_s []
set_option maxRecDepth 16384 in
theorem qA_book_x : expl qEnv qPh qCSL [] true 7 kRc0 kRs0 (some .boolean) qPL qPostL 9 (lfc 70) (qGB_book, [], [], []) none 600 qA_book = true := by decide +kernel
set_option maxRecDepth 16384 in
def qB0_book : List (Nat × AS) := (qstp 1137 qMB_book [192] qSB0_book).getD []
set_option maxRecDepth 16384 in
theorem qB0_book_s : (qstp 1137 qMB_book [192] qSB0_book).isSome = true := by decide +kernel
set_option maxRecDepth 16384 in
theorem qB0_book_e : qstp 1137 qMB_book [192] qSB0_book = some qB0_book := osome qB0_book_s []
set_option maxRecDepth 16384 in
theorem qB0_book_x : expl qEnv qPh qCSL [] true 7 kRc0 kRs0 (some .boolean) qPL qPostL 9 (lfc 70) qGH none 600 qB0_book = true := by decide +kernel
set_option maxRecDepth 16384 in
def qB1_book : List (Nat × AS) := (qstp 1137 qMB_book [192] qSB1_book).getD []
set_option maxRecDepth 16384 in
theorem qB1_book_s : (qstp 1137 qMB_book [192] qSB1_book).isSome = true := by decide +kernel
set_option maxRecDepth 16384 in
theorem qB1_book_e : qstp 1137 qMB_book [192] qSB1_book = some qB1_book := osome qB1_book_s []
set_option maxRecDepth 16384 in
theorem qB1_book_x : expl qEnv qPh qCSL [] true 7 kRc0 kRs0 (some .boolean) qPL qPostL 9 (lfc 70) qGH none 600 qB1_book = true := by decide +kernel
set_option maxRecDepth 16384 in
def qB2_book : List (Nat × AS) := (qstp 1137 qMB_book [192] qSB2_book).getD []
set_option maxRecDepth 16384 in
theorem qB2_book_s : (qstp 1137 qMB_book [192] qSB2_book).isSome = true := by decide +kernel
set_option maxRecDepth 16384 in
theorem qB2_book_e : qstp 1137 qMB_book [192] qSB2_book = some qB2_book := osome qB2_book_s []
set_option maxRecDepth 16384 in
theorem qB2_book_x : expl qEnv qPh qCSL [] true 7 kRc0 kRs0 (some .boolean) qPL qPostL 9 (lfc 70) qGH none 600 qB2_book = true := by decide +kernel
set_option maxRecDepth 16384 in
def qAq : List (Nat × AS) := (qstp 625 qMA_q [2] qSq).getD []
set_option maxRecDepth 16384 in
theorem qAq_s : (qstp 625 qMA_q [2] qSq).isSome = true := by decide +kernel
set_option maxRecDepth 16384 in
theorem qAq_e : qstp 625 qMA_q [2] qSq = some qAq := osome qAq_s []
set_option maxRecDepth 16384 in
theorem qAq_c : qAq.all (fun q => acut qEnv 9 none q.1 q.2 [(628, qSq1, (0, []))]) = true := by decide +kernel
set_option maxRecDepth 16384 in
theorem qAq_x : expl qEnv qPh qCSL [] true 7 kRc0 kRs0 (some .boolean) qPL [] 10 (lfc 70) ([(635, qSqB, (0, []))], [], [], []) none 600 [(628, qSq1)] = true := by decide +kernel
set_option maxRecDepth 16384 in
def qBq : List (Nat × AS) := (qstp 635 qMB_q [188] qSqB).getD []
set_option maxRecDepth 16384 in
theorem qBq_s : (qstp 635 qMB_q [188] qSqB).isSome = true := by decide +kernel
set_option maxRecDepth 16384 in
theorem qBq_e : qstp 635 qMB_q [188] qSqB = some qBq := osome qBq_s []
set_option maxRecDepth 16384 in
theorem qBq_c : qBq.all (fun q => acut qEnv 10 none q.1 q.2 [(638, qSqC0, (0, []))]) = true := by decide +kernel
set_option maxRecDepth 16384 in
def qCq : List (Nat × AS) := (aproc qEnv qPh qCSL [] true 7 kRc0 kRs0 (some .boolean) qPL qPostL 9 (lfc 70) qGH none true 638 qSqC).getD []
set_option maxRecDepth 16384 in
theorem qCq_s : (aproc qEnv qPh qCSL [] true 7 kRc0 kRs0 (some .boolean) qPL qPostL 9 (lfc 70) qGH none true 638 qSqC).isSome = true := by decide +kernel
set_option maxRecDepth 16384 in
theorem qCq_e : aproc qEnv qPh qCSL [] true 7 kRc0 kRs0 (some .boolean) qPL qPostL 9 (lfc 70) qGH none true 638 qSqC = some qCq := osome qCq_s []
set_option maxRecDepth 16384 in
theorem qCq_x : expl qEnv qPh qCSL [] true 7 kRc0 kRs0 (some .boolean) qPL qPostL 9 (lfc 70) qGH none 600 qCq = true := by decide +kernel
