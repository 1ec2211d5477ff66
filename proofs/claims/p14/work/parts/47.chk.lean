/-! The contracts checked by the kernel. -/
theorem qK294 : kchk qEnv qPh qCS qmeths 3000 qC294 qG294 = true := by decide +kernel
