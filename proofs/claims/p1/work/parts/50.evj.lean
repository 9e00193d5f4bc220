/-! THE LAW'S RUNS, in the kernel, by boxes of the script's second and third number -/
set_option maxRecDepth 1000000 in
theorem aEv_8_0 : aLaw (aSc6 8) (aCb ((-2147483648), 0) ((-2147483648), 2147483647)) = true := by decide +kernel
set_option maxRecDepth 1000000 in
theorem aEv_8_1 : aLaw (aSc6 8) (aCb (1, 1) ((-2147483648), 19)) = true := by decide +kernel
set_option maxRecDepth 1000000 in
theorem aEv_8_2 : aLaw (aSc6 8) (aCb (1, 1) (20, 39)) = true := by decide +kernel
