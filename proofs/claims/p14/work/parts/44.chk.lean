/-! A long check in shares. -/
def qQ212 : Nat × AS × LF := qG212.1.headD (0, (0, [], [], [], [], [], lfc 0, lfc 0), lfc 0)
def qA212 : List (Nat × AS) := (aproc qEnv qPh qCS qC212.2.2.2.1 false 4 0 0 (some .boolean) qP191 qC212.2.2.1 qC212.2.1.1 qC212.2.2.2.2 qG212 (some qQ212.2.2) true qQ212.1 qQ212.2.1).getD []
def qX212 : List (Nat × AS) := (expn qEnv qPh qCS qC212.2.2.2.1 false 4 0 0 (some .boolean) qP191 qC212.2.2.1 qC212.2.1.1 qC212.2.2.2.2 qG212 (some qQ212.2.2) 16 qA212).getD []
theorem qA212_s : (aproc qEnv qPh qCS qC212.2.2.2.1 false 4 0 0 (some .boolean) qP191 qC212.2.2.1 qC212.2.1.1 qC212.2.2.2.2 qG212 (some qQ212.2.2) true qQ212.1 qQ212.2.1).isSome = true := by decide +kernel
theorem qX212_s : (expn qEnv qPh qCS qC212.2.2.2.1 false 4 0 0 (some .boolean) qP191 qC212.2.2.1 qC212.2.1.1 qC212.2.2.2.2 qG212 (some qQ212.2.2) 16 qA212).isSome = true := by decide +kernel
theorem qS212_0 : expl qEnv qPh qCS qC212.2.2.2.1 false 4 0 0 (some .boolean) qP191 qC212.2.2.1 qC212.2.1.1 qC212.2.2.2.2 qG212 (some qQ212.2.2) 400 (qX212.take 5) = true := by decide +kernel
theorem qS212_1 : expl qEnv qPh qCS qC212.2.2.2.1 false 4 0 0 (some .boolean) qP191 qC212.2.2.1 qC212.2.1.1 qC212.2.2.2.2 qG212 (some qQ212.2.2) 400 ((qX212.drop 5).take 5) = true := by decide +kernel
theorem qS212_2 : expl qEnv qPh qCS qC212.2.2.2.1 false 4 0 0 (some .boolean) qP191 qC212.2.2.1 qC212.2.1.1 qC212.2.2.2.2 qG212 (some qQ212.2.2) 400 (((qX212.drop 5).drop 5).take 5) = true := by decide +kernel
theorem qS212_3 : expl qEnv qPh qCS qC212.2.2.2.1 false 4 0 0 (some .boolean) qP191 qC212.2.2.1 qC212.2.1.1 qC212.2.2.2.2 qG212 (some qQ212.2.2) 400 ((((qX212.drop 5).drop 5).drop 5).take 5) = true := by decide +kernel
theorem qS212_4 : expl qEnv qPh qCS qC212.2.2.2.1 false 4 0 0 (some .boolean) qP191 qC212.2.2.1 qC212.2.1.1 qC212.2.2.2.2 qG212 (some qQ212.2.2) 400 ((((qX212.drop 5).drop 5).drop 5).drop 5) = true := by decide +kernel
theorem qR212 : expl qEnv qPh qCS qC212.2.2.2.1 false 4 0 0 (some .boolean) qP191 qC212.2.2.1 qC212.2.1.1 qC212.2.2.2.2 qG212 (some qQ212.2.2) 2000 qX212 = true := (expl_take 5 qS212_0 (expl_take 5 qS212_1 (expl_take 5 qS212_2 (expl_take 5 qS212_3 qS212_4))))
theorem qE212 : kchk0 qEnv qPh qCS 2016 qC212 qG212 4 0 0 (some .boolean) qP191 = true := by decide +kernel
theorem qU212 : kcut qEnv qPh qCS 2016 qC212 qG212 qQ212 4 0 0 (some .boolean) qP191 = true := by
  unfold kcut
  rw [osome qA212_s []]
  exact expn_ok (f := 1999) 16 _ _ (osome qX212_s []) qR212
theorem qK212 : kchk qEnv qPh qCS qmeths 2016 qC212 qG212 = true := kchk_shares (mn := qM191.1) (y := qM191.2.1) rfl qE212 (List.forall_mem_cons.mpr ⟨qU212, List.forall_mem_nil _⟩)
