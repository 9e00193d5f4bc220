/-! THE LAW'S RUNS, in the kernel -/
set_option maxRecDepth 1000000 in
theorem aEv_32 : aLaw (aSc6 32) aC6 = true := by decide +kernel
set_option maxRecDepth 1000000 in
theorem aEv_33 : aLaw (aSc6 33) aC6 = true := by decide +kernel
set_option maxRecDepth 1000000 in
theorem aEv_34 : aLaw (aSc6 34) aC6 = true := by decide +kernel
set_option maxRecDepth 1000000 in
theorem aEv_35 : aLaw (aSc6 35) aC6 = true := by decide +kernel
set_option maxRecDepth 1000000 in
theorem aEv_36 : aLaw (aSc6 36) aC6 = true := by decide +kernel
set_option maxRecDepth 1000000 in
theorem aEv_37 : aLaw (aSc6 37) aC6 = true := by decide +kernel
set_option maxRecDepth 1000000 in
theorem aEv_38 : aLaw (aSc6 38) aC6 = true := by decide +kernel
set_option maxRecDepth 1000000 in
theorem aEv_39 : aLaw (aSc6 39) aC6 = true := by decide +kernel
set_option maxRecDepth 1000000 in
theorem aEv_40 : aLaw (aSc6 40) aC6 = true := by decide +kernel
set_option maxRecDepth 1000000 in
theorem aEv_41 : aLaw (aSc6 41) aC6 = true := by decide +kernel
