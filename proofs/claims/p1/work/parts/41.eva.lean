/-! THE LAW'S RUNS, in the kernel -/
set_option maxRecDepth 1000000 in
theorem aEv_L0 : aLaw (aScL 0) ([], []) = true := by decide +kernel
set_option maxRecDepth 1000000 in
theorem aEv_L1 : aLaw (aScL 1) ([], []) = true := by decide +kernel
set_option maxRecDepth 1000000 in
theorem aEv_L2 : aLaw (aScL 2) ([], []) = true := by decide +kernel
set_option maxRecDepth 1000000 in
theorem aEv_L3 : aLaw (aScL 3) ([], []) = true := by decide +kernel
set_option maxRecDepth 1000000 in
theorem aEv_L4 : aLaw (aScL 4) ([], []) = true := by decide +kernel
set_option maxRecDepth 1000000 in
theorem aEv_L5 : aLaw (aScL 5) ([], []) = true := by decide +kernel
set_option maxRecDepth 1000000 in
theorem aEv_0 : aLaw (aSc6 0) aC6 = true := by decide +kernel
set_option maxRecDepth 1000000 in
theorem aEv_1 : aLaw (aSc6 1) aC6 = true := by decide +kernel
set_option maxRecDepth 1000000 in
theorem aEv_2 : aLaw (aSc6 2) aC6 = true := by decide +kernel
set_option maxRecDepth 1000000 in
theorem aEv_3 : aLaw (aSc6 3) aC6 = true := by decide +kernel
set_option maxRecDepth 1000000 in
theorem aEv_4 : aLaw (aSc6 4) aC6 = true := by decide +kernel
set_option maxRecDepth 1000000 in
theorem aEv_5 : aLaw (aSc6 5) aC6 = true := by decide +kernel
set_option maxRecDepth 1000000 in
theorem aEv_6 : aLaw (aSc6 6) aC6 = true := by decide +kernel
set_option maxRecDepth 1000000 in
theorem aEv_7 : aLaw (aSc6 7) aC6 = true := by decide +kernel
set_option maxRecDepth 1000000 in
theorem aEv_9 : aLaw (aSc6 9) aC6 = true := by decide +kernel
set_option maxRecDepth 1000000 in
theorem aEv_10 : aLaw (aSc6 10) aC6 = true := by decide +kernel
