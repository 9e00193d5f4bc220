/-! THE LAW'S RUNS, in the kernel, by boxes of the script's second and third number -/
set_option maxRecDepth 1000000 in
theorem aEv_8_3 : aLaw (aSc6 8) (aCb (1, 1) (40, 59)) = true := by decide +kernel
set_option maxRecDepth 1000000 in
theorem aEv_8_4 : aLaw (aSc6 8) (aCb (1, 1) (60, 2147483647)) = true := by decide +kernel
set_option maxRecDepth 1000000 in
theorem aEv_8_5 : aLaw (aSc6 8) (aCb (2, 5) ((-2147483648), 2147483647)) = true := by decide +kernel
