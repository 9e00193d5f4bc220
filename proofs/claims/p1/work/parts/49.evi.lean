/-! THE LAW'S RUNS, in the kernel, by boxes of the script's second and third number -/
set_option maxRecDepth 1000000 in
theorem aEv_42_4 : aLaw (aSc6 42) (aCb ((-2147483648), 2147483647) (6, 6)) = true := by decide +kernel
set_option maxRecDepth 1000000 in
theorem aEv_42_5 : aLaw (aSc6 42) (aCb ((-2147483648), 2147483647) (7, 2147483647)) = true := by decide +kernel
