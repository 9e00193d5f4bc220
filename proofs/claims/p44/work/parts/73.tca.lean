/-! CONTRACTS, by runs in the kernel -/
set_option maxRecDepth 100000 in
/-- X9_workOut, 1895 steps -/
theorem tCok_0 (hT : aTabOk) (hK : ∀ c ∈ tKs_0, tCtOk c) : tCtOk tC_0 := tCt_of (K := (tPt_, tKs_0)) hT hK (n := 20000) rfl (by decide +kernel)
set_option maxRecDepth 100000 in
/-- X9_worthOf, 109 steps -/
theorem tCok_1 (hT : aTabOk) (hK : ∀ c ∈ tKs_1, tCtOk c) : tCtOk tC_1 := tCt_of (K := (tPt_, tKs_1)) hT hK (n := 20000) rfl (by decide +kernel)
set_option maxRecDepth 100000 in
/-- X9_counting, 50 steps -/
theorem tCok_2 (hT : aTabOk) (hK : ∀ c ∈ tKs_2, tCtOk c) : tCtOk tC_2 := tCt_of (K := (tPt_, tKs_2)) hT hK (n := 20000) rfl (by decide +kernel)
set_option maxRecDepth 100000 in
/-- X1_placeInRow, 65 steps -/
theorem tCok_3 (hT : aTabOk) (hK : ∀ c ∈ tKs_3, tCtOk c) : tCtOk tC_3 := tCt_of (K := (tPt_, tKs_3)) hT hK (n := 20000) rfl (by decide +kernel)
set_option maxRecDepth 100000 in
/-- X1_worthInOrder, 995 steps -/
theorem tCok_4 (hT : aTabOk) (hK : ∀ c ∈ tKs_4, tCtOk c) : tCtOk tC_4 := tCt_of (K := (tPt_, tKs_4)) hT hK (n := 20000) rfl (by decide +kernel)
set_option maxRecDepth 100000 in
/-- X1_layRow, 127 steps -/
theorem tCok_5 (hT : aTabOk) (hK : ∀ c ∈ tKs_5, tCtOk c) : tCtOk tC_5 := tCt_of (K := (tPt_, tKs_5)) hT hK (n := 20000) rfl (by decide +kernel)
set_option maxRecDepth 100000 in
/-- X1_poll, 1001 steps -/
theorem tCok_6 (hT : aTabOk) (hK : ∀ c ∈ tKs_6, tCtOk c) : tCtOk tC_6 := tCt_of (K := (tPt_, tKs_6)) hT hK (n := 20000) rfl (by decide +kernel)
set_option maxRecDepth 100000 in
/-- X1_countVoters, 824 steps -/
theorem tCok_7 (hT : aTabOk) (hK : ∀ c ∈ tKs_7, tCtOk c) : tCtOk tC_7 := tCt_of (K := (tPt_, tKs_7)) hT hK (n := 20000) rfl (by decide +kernel)
set_option maxRecDepth 100000 in
/-- X1_polledPasses, 45 steps -/
theorem tCok_8 (hT : aTabOk) (hK : ∀ c ∈ tKs_8, tCtOk c) : tCtOk tC_8 := tCt_of (K := (tPt_, tKs_8)) hT hK (n := 20000) rfl (by decide +kernel)
set_option maxRecDepth 100000 in
/-- X1_mayBePut, 44 steps -/
theorem tCok_9 (hT : aTabOk) (hK : ∀ c ∈ tKs_9, tCtOk c) : tCtOk tC_9 := tCt_of (K := (tPt_, tKs_9)) hT hK (n := 20000) rfl (by decide +kernel)
