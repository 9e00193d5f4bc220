/-! CONTRACTS, by runs in the kernel -/
set_option maxRecDepth 100000 in
/-- X12_put, 7368 steps -/
theorem tCok_108 (hT : aTabOk) : tCtOk tC_108 := tCt_of (K := (tPt_, tKs_108)) hT (tKok_108 hT) (n := 20000) rfl (by decide +kernel)
theorem tKok_109 (hT : aTabOk) : ∀ c ∈ tKs_109, tCtOk c := tCtOk_cons (tCok_108 hT) (tKok_108 hT)
set_option maxRecDepth 100000 in
/-- X12_rule, 482 steps -/
theorem tCok_109 (hT : aTabOk) : tCtOk tC_109 := tCt_of (K := (tPt_, tKs_109)) hT (tKok_109 hT) (n := 20000) rfl (by decide +kernel)
theorem tKok_110 (hT : aTabOk) : ∀ c ∈ tKs_110, tCtOk c := tCtOk_cons (tCok_109 hT) (tKok_109 hT)
set_option maxRecDepth 100000 in
/-- X12_mend, 100 steps -/
theorem tCok_110 (hT : aTabOk) : tCtOk tC_110 := tCt_of (K := (tPt_, tKs_110)) hT (tKok_110 hT) (n := 20000) rfl (by decide +kernel)
theorem tKok_111 (hT : aTabOk) : ∀ c ∈ tKs_111, tCtOk c := tCtOk_cons (tCok_110 hT) (tKok_110 hT)
set_option maxRecDepth 100000 in
/-- X12_falls, 363 steps -/
theorem tCok_111 (hT : aTabOk) : tCtOk tC_111 := tCt_of (K := (tPt_, tKs_111)) hT (tKok_111 hT) (n := 20000) rfl (by decide +kernel)
theorem tKok_112 (hT : aTabOk) : ∀ c ∈ tKs_112, tCtOk c := tCtOk_cons (tCok_111 hT) (tKok_111 hT)
set_option maxRecDepth 100000 in
/-- X12_never, 485 steps -/
theorem tCok_112 (hT : aTabOk) : tCtOk tC_112 := tCt_of (K := (tPt_, tKs_112)) hT (tKok_112 hT) (n := 20000) rfl (by decide +kernel)
theorem tKok_113 (hT : aTabOk) : ∀ c ∈ tKs_113, tCtOk c := tCtOk_cons (tCok_112 hT) (tKok_112 hT)
set_option maxRecDepth 100000 in
/-- X12_row, 16 steps -/
theorem tCok_113 (hT : aTabOk) : tCtOk tC_113 := tCt_of (K := (tPt_, tKs_113)) hT (tKok_113 hT) (n := 20000) rfl (by decide +kernel)
theorem tKok_114 (hT : aTabOk) : ∀ c ∈ tKs_114, tCtOk c := tCtOk_cons (tCok_113 hT) (tKok_113 hT)
