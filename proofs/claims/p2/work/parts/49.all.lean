theorem qAll (X : KO) : ∀ d, ∀ C ∈ qCS, kcwf C = true ∧ CV qEnv qPh (kcl qmeths X d) d C := sorry
