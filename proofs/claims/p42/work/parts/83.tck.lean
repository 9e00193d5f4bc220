/-! CONTRACTS, by runs in the kernel -/
set_option maxRecDepth 100000 in
/-- X12_check, 55889 steps -/
theorem tCok_138 (hT : aTabOk) : tCtOk tC_138 := tCt_of (K := (tPt_, tKs_138)) hT (tKok_138 hT) (n := 20000) rfl (by decide +kernel)
theorem tKok_139 (hT : aTabOk) : ∀ c ∈ tKs_139, tCtOk c := tCtOk_cons (tCok_138 hT) (tKok_138 hT)
