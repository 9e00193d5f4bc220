set_option maxRecDepth 1000000 in
theorem try_50 : aAll1 (aRun aAnN 20000 (aSc6 50) 100 [] [] (365, 0, [(0, kR 0)], []) (0, []) aC6) = true := by decide +kernel
