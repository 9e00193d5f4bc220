/-! THE LAW'S RUNS, in the kernel, by boxes of the script's second and third number -/
def aCb (b1 b2 : Int × Int) : aC := ([(-2147483648, 2147483647), b1, b2, (-2147483648, 2147483647), (-2147483648, 2147483647), (-2147483648, 2147483647)], [])
set_option maxRecDepth 1000000 in
theorem aEv_42_0 : aLaw (aSc6 42) (aCb ((-2147483648), 2147483647) ((-2147483648), 1)) = true := by decide +kernel
set_option maxRecDepth 1000000 in
theorem aEv_42_1 : aLaw (aSc6 42) (aCb ((-2147483648), 2147483647) (2, 3)) = true := by decide +kernel
