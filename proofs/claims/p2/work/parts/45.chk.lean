/-! The contracts checked by the kernel. -/
theorem qK292 : kchk qEnv qPh qCS qmeths 3000 qC292 qG292 = true := by decide +kernel
