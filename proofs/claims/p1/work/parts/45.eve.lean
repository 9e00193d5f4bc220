/-! THE LAW'S RUNS, in the kernel -/
set_option maxRecDepth 1000000 in
theorem aEv_44 : aLaw (aSc6 44) aC6 = true := by decide +kernel
set_option maxRecDepth 1000000 in
theorem aEv_45 : aLaw (aSc6 45) aC6 = true := by decide +kernel
set_option maxRecDepth 1000000 in
theorem aEv_46 : aLaw (aSc6 46) aC6 = true := by decide +kernel
set_option maxRecDepth 1000000 in
theorem aEv_47 : aLaw (aSc6 47) aC6 = true := by decide +kernel
set_option maxRecDepth 1000000 in
theorem aEv_48 : aLaw (aSc6 48) aC6 = true := by decide +kernel
set_option maxRecDepth 1000000 in
theorem aEv_49 : aLaw (aSc6 49) aC6 = true := by decide +kernel
set_option maxRecDepth 1000000 in
theorem aEv_50 : aLaw (aSc6 50) aC6 = true := by decide +kernel
set_option maxRecDepth 1000000 in
theorem aEv_51 : aLaw (aSc6 51) aC6 = true := by decide +kernel
set_option maxRecDepth 1000000 in
theorem aEv_52 : aLaw (aSc6 52) aC6 = true := by decide +kernel
set_option maxRecDepth 1000000 in
theorem aEv_53 : aLaw (aSc6 53) aC6 = true := by decide +kernel
set_option maxRecDepth 1000000 in
theorem aEv_54 : aLaw (aSc6 54) aC6 = true := by decide +kernel
set_option maxRecDepth 1000000 in
theorem aEv_55 : aLaw (aSc6 55) aC6 = true := by decide +kernel
set_option maxRecDepth 1000000 in
theorem aEv_56 : aLaw (aSc6 56) aC6 = true := by decide +kernel
set_option maxRecDepth 1000000 in
theorem aEv_57 : aLaw (aSc6 57) aC6 = true := by decide +kernel
set_option maxRecDepth 1000000 in
theorem aEv_58 : aLaw (aSc6 58) aC6 = true := by decide +kernel
set_option maxRecDepth 1000000 in
theorem aEv_59 : aLaw (aSc6 59) aC6 = true := by decide +kernel
set_option maxRecDepth 1000000 in
theorem aEv_60 : aLaw (aSc6 60) aC6 = true := by decide +kernel
set_option maxRecDepth 1000000 in
theorem aEv_61 : aLaw (aSc6 61) aC6 = true := by decide +kernel
set_option maxRecDepth 1000000 in
theorem aEv_62 : aLaw (aSc6 62) aC6 = true := by decide +kernel
set_option maxRecDepth 1000000 in
theorem aEv_63 : aLaw (aSc6 63) aC6 = true := by decide +kernel
