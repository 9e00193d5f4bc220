/-! CONTRACTS, by runs in the kernel -/
set_option maxRecDepth 100000 in
/-- X12_put, 7368 steps -/
theorem tCok_110 (hT : aTabOk) (hK : ∀ c ∈ tKs_110, tCtOk c) : tCtOk tC_110 := tCt_of (K := (tPt_, tKs_110)) hT hK (n := 20000) rfl (by decide +kernel)
set_option maxRecDepth 100000 in
/-- X12_rule, 482 steps -/
theorem tCok_111 (hT : aTabOk) (hK : ∀ c ∈ tKs_111, tCtOk c) : tCtOk tC_111 := tCt_of (K := (tPt_, tKs_111)) hT hK (n := 20000) rfl (by decide +kernel)
set_option maxRecDepth 100000 in
/-- X12_mend, 100 steps -/
theorem tCok_112 (hT : aTabOk) (hK : ∀ c ∈ tKs_112, tCtOk c) : tCtOk tC_112 := tCt_of (K := (tPt_, tKs_112)) hT hK (n := 20000) rfl (by decide +kernel)
set_option maxRecDepth 100000 in
/-- X12_falls, 363 steps -/
theorem tCok_113 (hT : aTabOk) (hK : ∀ c ∈ tKs_113, tCtOk c) : tCtOk tC_113 := tCt_of (K := (tPt_, tKs_113)) hT hK (n := 20000) rfl (by decide +kernel)
set_option maxRecDepth 100000 in
/-- X12_never, 485 steps -/
theorem tCok_114 (hT : aTabOk) (hK : ∀ c ∈ tKs_114, tCtOk c) : tCtOk tC_114 := tCt_of (K := (tPt_, tKs_114)) hT hK (n := 20000) rfl (by decide +kernel)
set_option maxRecDepth 100000 in
/-- X12_row, 16 steps -/
theorem tCok_115 (hT : aTabOk) (hK : ∀ c ∈ tKs_115, tCtOk c) : tCtOk tC_115 := tCt_of (K := (tPt_, tKs_115)) hT hK (n := 20000) rfl (by decide +kernel)
