/-! THE LAW'S RUNS, in the kernel, by boxes of the script's second and third number -/
set_option maxRecDepth 1000000 in
theorem aEv_8_6 : aLaw (aSc6 8) (aCb (6, 6) ((-2147483648), 39)) = true := by decide +kernel
set_option maxRecDepth 1000000 in
theorem aEv_8_7 : aLaw (aSc6 8) (aCb (6, 6) (40, 2147483647)) = true := by decide +kernel
set_option maxRecDepth 1000000 in
theorem aEv_8_8 : aLaw (aSc6 8) (aCb (7, 2147483647) ((-2147483648), 2147483647)) = true := by decide +kernel
