/-! The contracts checked by the kernel. -/
theorem qK293 : kchk qEnv qPh qCS qmeths 3000 qC293 qG293 = true := by decide +kernel
