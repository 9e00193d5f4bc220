/-! THE LAW'S RUNS, in the kernel -/
set_option maxRecDepth 1000000 in
theorem aEv_21 : aLaw (aSc6 21) aC6 = true := by decide +kernel
set_option maxRecDepth 1000000 in
theorem aEv_22 : aLaw (aSc6 22) aC6 = true := by decide +kernel
set_option maxRecDepth 1000000 in
theorem aEv_23 : aLaw (aSc6 23) aC6 = true := by decide +kernel
set_option maxRecDepth 1000000 in
theorem aEv_24 : aLaw (aSc6 24) aC6 = true := by decide +kernel
set_option maxRecDepth 1000000 in
theorem aEv_25 : aLaw (aSc6 25) aC6 = true := by decide +kernel
set_option maxRecDepth 1000000 in
theorem aEv_26 : aLaw (aSc6 26) aC6 = true := by decide +kernel
set_option maxRecDepth 1000000 in
theorem aEv_27 : aLaw (aSc6 27) aC6 = true := by decide +kernel
set_option maxRecDepth 1000000 in
theorem aEv_28 : aLaw (aSc6 28) aC6 = true := by decide +kernel
set_option maxRecDepth 1000000 in
theorem aEv_29 : aLaw (aSc6 29) aC6 = true := by decide +kernel
set_option maxRecDepth 1000000 in
theorem aEv_30 : aLaw (aSc6 30) aC6 = true := by decide +kernel
