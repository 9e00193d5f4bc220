/-! CONTRACTS, by runs in the kernel -/
set_option maxRecDepth 100000 in
/-- X12_put, 7368 steps -/
theorem tCok_110 (hT : aTabOk) : tCtOk tC_110 := tCt_of (K := (tPt_, tKs_110)) hT (tKok_110 hT) (n := 20000) rfl (by decide +kernel)
theorem tKok_111 (hT : aTabOk) : ∀ c ∈ tKs_111, tCtOk c := tCtOk_cons (tCok_110 hT) (tKok_110 hT)
set_option maxRecDepth 100000 in
/-- X12_rule, 482 steps -/
theorem tCok_111 (hT : aTabOk) : tCtOk tC_111 := tCt_of (K := (tPt_, tKs_111)) hT (tKok_111 hT) (n := 20000) rfl (by decide +kernel)
theorem tKok_112 (hT : aTabOk) : ∀ c ∈ tKs_112, tCtOk c := tCtOk_cons (tCok_111 hT) (tKok_111 hT)
set_option maxRecDepth 100000 in
/-- X12_mend, 100 steps -/
theorem tCok_112 (hT : aTabOk) : tCtOk tC_112 := tCt_of (K := (tPt_, tKs_112)) hT (tKok_112 hT) (n := 20000) rfl (by decide +kernel)
theorem tKok_113 (hT : aTabOk) : ∀ c ∈ tKs_113, tCtOk c := tCtOk_cons (tCok_112 hT) (tKok_112 hT)
set_option maxRecDepth 100000 in
/-- X12_falls, 363 steps -/
theorem tCok_113 (hT : aTabOk) : tCtOk tC_113 := tCt_of (K := (tPt_, tKs_113)) hT (tKok_113 hT) (n := 20000) rfl (by decide +kernel)
theorem tKok_114 (hT : aTabOk) : ∀ c ∈ tKs_114, tCtOk c := tCtOk_cons (tCok_113 hT) (tKok_113 hT)
set_option maxRecDepth 100000 in
/-- X12_never, 485 steps -/
theorem tCok_114 (hT : aTabOk) : tCtOk tC_114 := tCt_of (K := (tPt_, tKs_114)) hT (tKok_114 hT) (n := 20000) rfl (by decide +kernel)
theorem tKok_115 (hT : aTabOk) : ∀ c ∈ tKs_115, tCtOk c := tCtOk_cons (tCok_114 hT) (tKok_114 hT)
set_option maxRecDepth 100000 in
/-- X12_row, 16 steps -/
theorem tCok_115 (hT : aTabOk) : tCtOk tC_115 := tCt_of (K := (tPt_, tKs_115)) hT (tKok_115 hT) (n := 20000) rfl (by decide +kernel)
theorem tKok_116 (hT : aTabOk) : ∀ c ∈ tKs_116, tCtOk c := tCtOk_cons (tCok_115 hT) (tKok_115 hT)
