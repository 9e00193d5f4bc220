/-! CONTRACTS, by runs in the kernel -/
set_option maxRecDepth 100000 in
/-- X12_rowsOfNight, 18207 steps -/
theorem tCok_92 (hT : aTabOk) : tCtOk tC_92 := tCt_of (K := (tPt_, tKs_92)) hT (tKok_92 hT) (n := 20000) rfl (by decide +kernel)
theorem tKok_93 (hT : aTabOk) : ∀ c ∈ tKs_93, tCtOk c := tCtOk_cons (tCok_92 hT) (tKok_92 hT)
