/-! The contracts checked by the kernel. -/
theorem qK310 : kchk qEnv qPh qCS qmeths 3000 qC310 qG310 = true := by decide +kernel
