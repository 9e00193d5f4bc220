/-! THE LAW'S RUNS, in the kernel, by boxes of the script's second and third number -/
set_option maxRecDepth 1000000 in
theorem aEv_42_2 : aLaw (aSc6 42) (aCb ((-2147483648), 2147483647) (4, 4)) = true := by decide +kernel
set_option maxRecDepth 1000000 in
theorem aEv_42_3 : aLaw (aSc6 42) (aCb ((-2147483648), 2147483647) (5, 5)) = true := by decide +kernel
