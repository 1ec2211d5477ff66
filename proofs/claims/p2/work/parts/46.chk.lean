/-! The contracts checked by the kernel. -/
theorem qK314 : kchk qEnv qPh qCS qmeths 3000 qC314 qG314 = true := by decide +kernel
