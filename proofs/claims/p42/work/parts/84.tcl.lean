/-! CONTRACTS, by runs in the kernel -/
set_option maxRecDepth 100000 in
/-- X12_keep, 14 steps -/
theorem tCok_139 (hT : aTabOk) : tCtOk tC_139 := tCt_of (K := (tPt_, tKs_139)) hT (tKok_139 hT) (n := 20000) rfl (by decide +kernel)
theorem tKok_140 (hT : aTabOk) : ∀ c ∈ tKs_140, tCtOk c := tCtOk_cons (tCok_139 hT) (tKok_139 hT)
set_option maxRecDepth 100000 in
/-- X12_back, 16 steps -/
theorem tCok_140 (hT : aTabOk) : tCtOk tC_140 := tCt_of (K := (tPt_, tKs_140)) hT (tKok_140 hT) (n := 20000) rfl (by decide +kernel)
theorem tKok_141 (hT : aTabOk) : ∀ c ∈ tKs_141, tCtOk c := tCtOk_cons (tCok_140 hT) (tKok_140 hT)
set_option maxRecDepth 100000 in
/-- X12_count, 373 steps -/
theorem tCok_141 (hT : aTabOk) : tCtOk tC_141 := tCt_of (K := (tPt_, tKs_141)) hT (tKok_141 hT) (n := 20000) rfl (by decide +kernel)
theorem tKok_142 (hT : aTabOk) : ∀ c ∈ tKs_142, tCtOk c := tCtOk_cons (tCok_141 hT) (tKok_141 hT)
