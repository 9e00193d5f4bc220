/-! CONTRACTS, by runs in the kernel -/
set_option maxRecDepth 100000 in
/-- X12_rowsOfNight, 18207 steps -/
theorem tCok_92 (hT : aTabOk) (hK : ∀ c ∈ tKs_92, tCtOk c) : tCtOk tC_92 := tCt_of (K := (tPt_, tKs_92)) hT hK (n := 20000) rfl (by decide +kernel)
