/-! CONTRACTS, by runs in the kernel -/
set_option maxRecDepth 100000 in
/-- X12_rowsTold, 1579 steps -/
theorem tCok_93 (hT : aTabOk) : tCtOk tC_93 := tCt_of (K := (tPt_, tKs_93)) hT (tKok_93 hT) (n := 20000) rfl (by decide +kernel)
theorem tKok_94 (hT : aTabOk) : ∀ c ∈ tKs_94, tCtOk c := tCtOk_cons (tCok_93 hT) (tKok_93 hT)
set_option maxRecDepth 100000 in
/-- X12_member, 130 steps -/
theorem tCok_94 (hT : aTabOk) : tCtOk tC_94 := tCt_of (K := (tPt_, tKs_94)) hT (tKok_94 hT) (n := 20000) rfl (by decide +kernel)
theorem tKok_95 (hT : aTabOk) : ∀ c ∈ tKs_95, tCtOk c := tCtOk_cons (tCok_94 hT) (tKok_94 hT)
set_option maxRecDepth 100000 in
/-- X12_is, 128 steps -/
theorem tCok_95 (hT : aTabOk) : tCtOk tC_95 := tCt_of (K := (tPt_, tKs_95)) hT (tKok_95 hT) (n := 20000) rfl (by decide +kernel)
theorem tKok_96 (hT : aTabOk) : ∀ c ∈ tKs_96, tCtOk c := tCtOk_cons (tCok_95 hT) (tKok_95 hT)
set_option maxRecDepth 100000 in
/-- X12_train, 324 steps -/
theorem tCok_96 (hT : aTabOk) : tCtOk tC_96 := tCt_of (K := (tPt_, tKs_96)) hT (tKok_96 hT) (n := 20000) rfl (by decide +kernel)
theorem tKok_97 (hT : aTabOk) : ∀ c ∈ tKs_97, tCtOk c := tCtOk_cons (tCok_96 hT) (tKok_96 hT)
set_option maxRecDepth 100000 in
/-- X12_go, 94 steps -/
theorem tCok_97 (hT : aTabOk) : tCtOk tC_97 := tCt_of (K := (tPt_, tKs_97)) hT (tKok_97 hT) (n := 20000) rfl (by decide +kernel)
theorem tKok_98 (hT : aTabOk) : ∀ c ∈ tKs_98, tCtOk c := tCtOk_cons (tCok_97 hT) (tKok_97 hT)
set_option maxRecDepth 100000 in
/-- X12_pair, 475 steps -/
theorem tCok_98 (hT : aTabOk) : tCtOk tC_98 := tCt_of (K := (tPt_, tKs_98)) hT (tKok_98 hT) (n := 20000) rfl (by decide +kernel)
theorem tKok_99 (hT : aTabOk) : ∀ c ∈ tKs_99, tCtOk c := tCtOk_cons (tCok_98 hT) (tKok_98 hT)
set_option maxRecDepth 100000 in
/-- X12_breaks, 100 steps -/
theorem tCok_99 (hT : aTabOk) : tCtOk tC_99 := tCt_of (K := (tPt_, tKs_99)) hT (tKok_99 hT) (n := 20000) rfl (by decide +kernel)
theorem tKok_100 (hT : aTabOk) : ∀ c ∈ tKs_100, tCtOk c := tCtOk_cons (tCok_99 hT) (tKok_99 hT)
set_option maxRecDepth 100000 in
/-- X12_clock, 45 steps -/
theorem tCok_100 (hT : aTabOk) : tCtOk tC_100 := tCt_of (K := (tPt_, tKs_100)) hT (tKok_100 hT) (n := 20000) rfl (by decide +kernel)
theorem tKok_101 (hT : aTabOk) : ∀ c ∈ tKs_101, tCtOk c := tCtOk_cons (tCok_100 hT) (tKok_100 hT)
set_option maxRecDepth 100000 in
/-- X12_run, 51 steps -/
theorem tCok_101 (hT : aTabOk) : tCtOk tC_101 := tCt_of (K := (tPt_, tKs_101)) hT (tKok_101 hT) (n := 20000) rfl (by decide +kernel)
theorem tKok_102 (hT : aTabOk) : ∀ c ∈ tKs_102, tCtOk c := tCtOk_cons (tCok_101 hT) (tKok_101 hT)
set_option maxRecDepth 100000 in
/-- X12_paper, 1955 steps -/
theorem tCok_102 (hT : aTabOk) : tCtOk tC_102 := tCt_of (K := (tPt_, tKs_102)) hT (tKok_102 hT) (n := 20000) rfl (by decide +kernel)
theorem tKok_103 (hT : aTabOk) : ∀ c ∈ tKs_103, tCtOk c := tCtOk_cons (tCok_102 hT) (tKok_102 hT)
set_option maxRecDepth 100000 in
/-- X12_hung, 543 steps -/
theorem tCok_103 (hT : aTabOk) : tCtOk tC_103 := tCt_of (K := (tPt_, tKs_103)) hT (tKok_103 hT) (n := 20000) rfl (by decide +kernel)
theorem tKok_104 (hT : aTabOk) : ∀ c ∈ tKs_104, tCtOk c := tCtOk_cons (tCok_103 hT) (tKok_103 hT)
set_option maxRecDepth 100000 in
/-- X12_told, 120 steps -/
theorem tCok_104 (hT : aTabOk) : tCtOk tC_104 := tCt_of (K := (tPt_, tKs_104)) hT (tKok_104 hT) (n := 20000) rfl (by decide +kernel)
theorem tKok_105 (hT : aTabOk) : ∀ c ∈ tKs_105, tCtOk c := tCtOk_cons (tCok_104 hT) (tKok_104 hT)
set_option maxRecDepth 100000 in
/-- X12_as, 345 steps -/
theorem tCok_105 (hT : aTabOk) : tCtOk tC_105 := tCt_of (K := (tPt_, tKs_105)) hT (tKok_105 hT) (n := 20000) rfl (by decide +kernel)
theorem tKok_106 (hT : aTabOk) : ∀ c ∈ tKs_106, tCtOk c := tCtOk_cons (tCok_105 hT) (tKok_105 hT)
set_option maxRecDepth 100000 in
/-- X12_stance, 122 steps -/
theorem tCok_106 (hT : aTabOk) : tCtOk tC_106 := tCt_of (K := (tPt_, tKs_106)) hT (tKok_106 hT) (n := 20000) rfl (by decide +kernel)
theorem tKok_107 (hT : aTabOk) : ∀ c ∈ tKs_107, tCtOk c := tCtOk_cons (tCok_106 hT) (tKok_106 hT)
set_option maxRecDepth 100000 in
/-- X12_print, 179 steps -/
theorem tCok_107 (hT : aTabOk) : tCtOk tC_107 := tCt_of (K := (tPt_, tKs_107)) hT (tKok_107 hT) (n := 20000) rfl (by decide +kernel)
theorem tKok_108 (hT : aTabOk) : ∀ c ∈ tKs_108, tCtOk c := tCtOk_cons (tCok_107 hT) (tKok_107 hT)
set_option maxRecDepth 100000 in
/-- X12_read, 135 steps -/
theorem tCok_108 (hT : aTabOk) : tCtOk tC_108 := tCt_of (K := (tPt_, tKs_108)) hT (tKok_108 hT) (n := 20000) rfl (by decide +kernel)
theorem tKok_109 (hT : aTabOk) : ∀ c ∈ tKs_109, tCtOk c := tCtOk_cons (tCok_108 hT) (tKok_108 hT)
set_option maxRecDepth 100000 in
/-- X12_would, 140 steps -/
theorem tCok_109 (hT : aTabOk) : tCtOk tC_109 := tCt_of (K := (tPt_, tKs_109)) hT (tKok_109 hT) (n := 20000) rfl (by decide +kernel)
theorem tKok_110 (hT : aTabOk) : ∀ c ∈ tKs_110, tCtOk c := tCtOk_cons (tCok_109 hT) (tKok_109 hT)
