/-! CONTRACTS, by runs in the kernel -/
set_option maxRecDepth 100000 in
/-- X11_check, 1395 steps -/
theorem tCok_72 (hT : aTabOk) (hK : ∀ c ∈ tKs_72, tCtOk c) : tCtOk tC_72 := tCt_of (K := (tPt_, tKs_72)) hT hK (n := 20000) rfl (by decide +kernel)
set_option maxRecDepth 100000 in
/-- X11_keep, 999 steps -/
theorem tCok_73 (hT : aTabOk) (hK : ∀ c ∈ tKs_73, tCtOk c) : tCtOk tC_73 := tCt_of (K := (tPt_, tKs_73)) hT hK (n := 20000) rfl (by decide +kernel)
set_option maxRecDepth 100000 in
/-- X11_back, 1001 steps -/
theorem tCok_74 (hT : aTabOk) (hK : ∀ c ∈ tKs_74, tCtOk c) : tCtOk tC_74 := tCt_of (K := (tPt_, tKs_74)) hT hK (n := 20000) rfl (by decide +kernel)
set_option maxRecDepth 100000 in
/-- X11_count, 558 steps -/
theorem tCok_75 (hT : aTabOk) (hK : ∀ c ∈ tKs_75, tCtOk c) : tCtOk tC_75 := tCt_of (K := (tPt_, tKs_75)) hT hK (n := 20000) rfl (by decide +kernel)
/-! tC_76: X12_setAside, by hand -/
/-! tC_77: X12_setAside, by hand -/
/-! tC_78: X12_setAside, by hand -/
/-! tC_79: X12_setAside, by hand -/
/-! tC_80: X12_worked, by hand -/
set_option maxRecDepth 100000 in
/-- X12_doesFall, 100 steps -/
theorem tCok_81 (hT : aTabOk) (hK : ∀ c ∈ tKs_81, tCtOk c) : tCtOk tC_81 := tCt_of (K := (tPt_, tKs_81)) hT hK (n := 20000) rfl (by decide +kernel)
/-! tC_82: X12_letFall, by hand -/
set_option maxRecDepth 100000 in
/-- X12_isBound, 93 steps -/
theorem tCok_83 (hT : aTabOk) (hK : ∀ c ∈ tKs_83, tCtOk c) : tCtOk tC_83 := tCt_of (K := (tPt_, tKs_83)) hT hK (n := 20000) rfl (by decide +kernel)
set_option maxRecDepth 100000 in
/-- X12_pairOf, 188 steps -/
theorem tCok_84 (hT : aTabOk) (hK : ∀ c ∈ tKs_84, tCtOk c) : tCtOk tC_84 := tCt_of (K := (tPt_, tKs_84)) hT hK (n := 20000) rfl (by decide +kernel)
set_option maxRecDepth 100000 in
/-- X12_counts, 123 steps -/
theorem tCok_85 (hT : aTabOk) (hK : ∀ c ∈ tKs_85, tCtOk c) : tCtOk tC_85 := tCt_of (K := (tPt_, tKs_85)) hT hK (n := 20000) rfl (by decide +kernel)
/-! tC_86: X12_findRow, by hand -/
/-! tC_87: X12_parse, by hand -/
set_option maxRecDepth 100000 in
/-- X12_minute, 614 steps -/
theorem tCok_88 (hT : aTabOk) (hK : ∀ c ∈ tKs_88, tCtOk c) : tCtOk tC_88 := tCt_of (K := (tPt_, tKs_88)) hT hK (n := 20000) rfl (by decide +kernel)
set_option maxRecDepth 100000 in
/-- X12_findNight, 441 steps -/
theorem tCok_89 (hT : aTabOk) (hK : ∀ c ∈ tKs_89, tCtOk c) : tCtOk tC_89 := tCt_of (K := (tPt_, tKs_89)) hT hK (n := 20000) rfl (by decide +kernel)
set_option maxRecDepth 100000 in
/-- X12_votes, 780 steps -/
theorem tCok_90 (hT : aTabOk) (hK : ∀ c ∈ tKs_90, tCtOk c) : tCtOk tC_90 := tCt_of (K := (tPt_, tKs_90)) hT hK (n := 20000) rfl (by decide +kernel)
set_option maxRecDepth 100000 in
/-- X12_present, 31 steps -/
theorem tCok_91 (hT : aTabOk) (hK : ∀ c ∈ tKs_91, tCtOk c) : tCtOk tC_91 := tCt_of (K := (tPt_, tKs_91)) hT hK (n := 20000) rfl (by decide +kernel)
