/-! The contracts checked by the kernel. -/
theorem qK315 : kchk qEnv qPh qCS qmeths 3000 qC315 qG315 = true := by decide +kernel
