/-! The contracts checked by the kernel. -/
theorem qK309 : kchk qEnv qPh qCS qmeths 3000 qC309 qG309 = true := by decide +kernel
