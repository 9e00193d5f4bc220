/-! CONTRACTS, by runs in the kernel -/
set_option maxRecDepth 100000 in
/-- X11_copy, 60391 steps -/
theorem tCok_60 (hT : aTabOk) : tCtOk tC_60 := tCt_of (K := (tPt_, tKs_60)) hT (tKok_60 hT) (n := 20000) rfl (by decide +kernel)
theorem tKok_61 (hT : aTabOk) : ∀ c ∈ tKs_61, tCtOk c := tCtOk_cons (tCok_60 hT) (tKok_60 hT)
