/-! THE LAW'S RUNS, in the kernel -/
set_option maxRecDepth 1000000 in
theorem aEv_43 : aLaw (aSc6 43) aC6 = true := by decide +kernel
set_option maxRecDepth 1000000 in
theorem aEv_31 : aLaw (aSc6 31) aC6 = true := by decide +kernel
