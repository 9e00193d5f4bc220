/-! THE LAW'S RUNS, in the kernel -/
set_option maxRecDepth 1000000 in
theorem aEv_11 : aLaw (aSc6 11) aC6 = true := by decide +kernel
set_option maxRecDepth 1000000 in
theorem aEv_12 : aLaw (aSc6 12) aC6 = true := by decide +kernel
set_option maxRecDepth 1000000 in
theorem aEv_13 : aLaw (aSc6 13) aC6 = true := by decide +kernel
set_option maxRecDepth 1000000 in
theorem aEv_14 : aLaw (aSc6 14) aC6 = true := by decide +kernel
set_option maxRecDepth 1000000 in
theorem aEv_15 : aLaw (aSc6 15) aC6 = true := by decide +kernel
set_option maxRecDepth 1000000 in
theorem aEv_16 : aLaw (aSc6 16) aC6 = true := by decide +kernel
set_option maxRecDepth 1000000 in
theorem aEv_17 : aLaw (aSc6 17) aC6 = true := by decide +kernel
set_option maxRecDepth 1000000 in
theorem aEv_18 : aLaw (aSc6 18) aC6 = true := by decide +kernel
set_option maxRecDepth 1000000 in
theorem aEv_19 : aLaw (aSc6 19) aC6 = true := by decide +kernel
set_option maxRecDepth 1000000 in
theorem aEv_20 : aLaw (aSc6 20) aC6 = true := by decide +kernel
