/-! The contracts checked by the kernel. -/
theorem qK212 : kchk qEnv qPh qCS qmeths 3000 qC212 qG212 = true := by decide +kernel
