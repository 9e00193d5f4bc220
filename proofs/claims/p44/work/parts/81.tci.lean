/-! CONTRACTS, by runs in the kernel -/
set_option maxRecDepth 100000 in
/-- X12_rowsTold, 1579 steps -/
theorem tCok_93 (hT : aTabOk) (hK : ∀ c ∈ tKs_93, tCtOk c) : tCtOk tC_93 := tCt_of (K := (tPt_, tKs_93)) hT hK (n := 20000) rfl (by decide +kernel)
set_option maxRecDepth 100000 in
/-- X12_member, 130 steps -/
theorem tCok_94 (hT : aTabOk) (hK : ∀ c ∈ tKs_94, tCtOk c) : tCtOk tC_94 := tCt_of (K := (tPt_, tKs_94)) hT hK (n := 20000) rfl (by decide +kernel)
set_option maxRecDepth 100000 in
/-- X12_is, 128 steps -/
theorem tCok_95 (hT : aTabOk) (hK : ∀ c ∈ tKs_95, tCtOk c) : tCtOk tC_95 := tCt_of (K := (tPt_, tKs_95)) hT hK (n := 20000) rfl (by decide +kernel)
set_option maxRecDepth 100000 in
/-- X12_train, 324 steps -/
theorem tCok_96 (hT : aTabOk) (hK : ∀ c ∈ tKs_96, tCtOk c) : tCtOk tC_96 := tCt_of (K := (tPt_, tKs_96)) hT hK (n := 20000) rfl (by decide +kernel)
set_option maxRecDepth 100000 in
/-- X12_go, 94 steps -/
theorem tCok_97 (hT : aTabOk) (hK : ∀ c ∈ tKs_97, tCtOk c) : tCtOk tC_97 := tCt_of (K := (tPt_, tKs_97)) hT hK (n := 20000) rfl (by decide +kernel)
set_option maxRecDepth 100000 in
/-- X12_pair, 475 steps -/
theorem tCok_98 (hT : aTabOk) (hK : ∀ c ∈ tKs_98, tCtOk c) : tCtOk tC_98 := tCt_of (K := (tPt_, tKs_98)) hT hK (n := 20000) rfl (by decide +kernel)
set_option maxRecDepth 100000 in
/-- X12_breaks, 100 steps -/
theorem tCok_99 (hT : aTabOk) (hK : ∀ c ∈ tKs_99, tCtOk c) : tCtOk tC_99 := tCt_of (K := (tPt_, tKs_99)) hT hK (n := 20000) rfl (by decide +kernel)
set_option maxRecDepth 100000 in
/-- X12_clock, 45 steps -/
theorem tCok_100 (hT : aTabOk) (hK : ∀ c ∈ tKs_100, tCtOk c) : tCtOk tC_100 := tCt_of (K := (tPt_, tKs_100)) hT hK (n := 20000) rfl (by decide +kernel)
set_option maxRecDepth 100000 in
/-- X12_run, 51 steps -/
theorem tCok_101 (hT : aTabOk) (hK : ∀ c ∈ tKs_101, tCtOk c) : tCtOk tC_101 := tCt_of (K := (tPt_, tKs_101)) hT hK (n := 20000) rfl (by decide +kernel)
set_option maxRecDepth 100000 in
/-- X12_paper, 1955 steps -/
theorem tCok_102 (hT : aTabOk) (hK : ∀ c ∈ tKs_102, tCtOk c) : tCtOk tC_102 := tCt_of (K := (tPt_, tKs_102)) hT hK (n := 20000) rfl (by decide +kernel)
set_option maxRecDepth 100000 in
/-- X12_hung, 543 steps -/
theorem tCok_103 (hT : aTabOk) (hK : ∀ c ∈ tKs_103, tCtOk c) : tCtOk tC_103 := tCt_of (K := (tPt_, tKs_103)) hT hK (n := 20000) rfl (by decide +kernel)
set_option maxRecDepth 100000 in
/-- X12_told, 120 steps -/
theorem tCok_104 (hT : aTabOk) (hK : ∀ c ∈ tKs_104, tCtOk c) : tCtOk tC_104 := tCt_of (K := (tPt_, tKs_104)) hT hK (n := 20000) rfl (by decide +kernel)
set_option maxRecDepth 100000 in
/-- X12_as, 345 steps -/
theorem tCok_105 (hT : aTabOk) (hK : ∀ c ∈ tKs_105, tCtOk c) : tCtOk tC_105 := tCt_of (K := (tPt_, tKs_105)) hT hK (n := 20000) rfl (by decide +kernel)
set_option maxRecDepth 100000 in
/-- X12_stance, 122 steps -/
theorem tCok_106 (hT : aTabOk) (hK : ∀ c ∈ tKs_106, tCtOk c) : tCtOk tC_106 := tCt_of (K := (tPt_, tKs_106)) hT hK (n := 20000) rfl (by decide +kernel)
set_option maxRecDepth 100000 in
/-- X12_print, 179 steps -/
theorem tCok_107 (hT : aTabOk) (hK : ∀ c ∈ tKs_107, tCtOk c) : tCtOk tC_107 := tCt_of (K := (tPt_, tKs_107)) hT hK (n := 20000) rfl (by decide +kernel)
set_option maxRecDepth 100000 in
/-- X12_read, 135 steps -/
theorem tCok_108 (hT : aTabOk) (hK : ∀ c ∈ tKs_108, tCtOk c) : tCtOk tC_108 := tCt_of (K := (tPt_, tKs_108)) hT hK (n := 20000) rfl (by decide +kernel)
set_option maxRecDepth 100000 in
/-- X12_would, 140 steps -/
theorem tCok_109 (hT : aTabOk) (hK : ∀ c ∈ tKs_109, tCtOk c) : tCtOk tC_109 := tCt_of (K := (tPt_, tKs_109)) hT hK (n := 20000) rfl (by decide +kernel)
