/-! CONTRACTS, by runs in the kernel -/
set_option maxRecDepth 100000 in
/-- X11_check, 1395 steps -/
theorem tCok_72 (hT : aTabOk) : tCtOk tC_72 := tCt_of (K := (tPt_, tKs_72)) hT (tKok_72 hT) (n := 20000) rfl (by decide +kernel)
theorem tKok_73 (hT : aTabOk) : ∀ c ∈ tKs_73, tCtOk c := tCtOk_cons (tCok_72 hT) (tKok_72 hT)
set_option maxRecDepth 100000 in
/-- X11_keep, 999 steps -/
theorem tCok_73 (hT : aTabOk) : tCtOk tC_73 := tCt_of (K := (tPt_, tKs_73)) hT (tKok_73 hT) (n := 20000) rfl (by decide +kernel)
theorem tKok_74 (hT : aTabOk) : ∀ c ∈ tKs_74, tCtOk c := tCtOk_cons (tCok_73 hT) (tKok_73 hT)
set_option maxRecDepth 100000 in
/-- X11_back, 1001 steps -/
theorem tCok_74 (hT : aTabOk) : tCtOk tC_74 := tCt_of (K := (tPt_, tKs_74)) hT (tKok_74 hT) (n := 20000) rfl (by decide +kernel)
theorem tKok_75 (hT : aTabOk) : ∀ c ∈ tKs_75, tCtOk c := tCtOk_cons (tCok_74 hT) (tKok_74 hT)
set_option maxRecDepth 100000 in
/-- X11_count, 558 steps -/
theorem tCok_75 (hT : aTabOk) : tCtOk tC_75 := tCt_of (K := (tPt_, tKs_75)) hT (tKok_75 hT) (n := 20000) rfl (by decide +kernel)
theorem tKok_76 (hT : aTabOk) : ∀ c ∈ tKs_76, tCtOk c := tCtOk_cons (tCok_75 hT) (tKok_75 hT)
theorem tCok_76 (hT : aTabOk) : tCtOk tC_76 := sorry -- X12_setAside
theorem tKok_77 (hT : aTabOk) : ∀ c ∈ tKs_77, tCtOk c := tCtOk_cons (tCok_76 hT) (tKok_76 hT)
theorem tCok_77 (hT : aTabOk) : tCtOk tC_77 := sorry -- X12_setAside
theorem tKok_78 (hT : aTabOk) : ∀ c ∈ tKs_78, tCtOk c := tCtOk_cons (tCok_77 hT) (tKok_77 hT)
theorem tCok_78 (hT : aTabOk) : tCtOk tC_78 := sorry -- X12_setAside
theorem tKok_79 (hT : aTabOk) : ∀ c ∈ tKs_79, tCtOk c := tCtOk_cons (tCok_78 hT) (tKok_78 hT)
theorem tCok_79 (hT : aTabOk) : tCtOk tC_79 := sorry -- X12_setAside
theorem tKok_80 (hT : aTabOk) : ∀ c ∈ tKs_80, tCtOk c := tCtOk_cons (tCok_79 hT) (tKok_79 hT)
theorem tCok_80 (hT : aTabOk) : tCtOk tC_80 := sorry -- X12_worked
theorem tKok_81 (hT : aTabOk) : ∀ c ∈ tKs_81, tCtOk c := tCtOk_cons (tCok_80 hT) (tKok_80 hT)
set_option maxRecDepth 100000 in
/-- X12_doesFall, 100 steps -/
theorem tCok_81 (hT : aTabOk) : tCtOk tC_81 := tCt_of (K := (tPt_, tKs_81)) hT (tKok_81 hT) (n := 20000) rfl (by decide +kernel)
theorem tKok_82 (hT : aTabOk) : ∀ c ∈ tKs_82, tCtOk c := tCtOk_cons (tCok_81 hT) (tKok_81 hT)
theorem tCok_82 (hT : aTabOk) : tCtOk tC_82 := sorry -- X12_letFall
theorem tKok_83 (hT : aTabOk) : ∀ c ∈ tKs_83, tCtOk c := tCtOk_cons (tCok_82 hT) (tKok_82 hT)
set_option maxRecDepth 100000 in
/-- X12_isBound, 93 steps -/
theorem tCok_83 (hT : aTabOk) : tCtOk tC_83 := tCt_of (K := (tPt_, tKs_83)) hT (tKok_83 hT) (n := 20000) rfl (by decide +kernel)
theorem tKok_84 (hT : aTabOk) : ∀ c ∈ tKs_84, tCtOk c := tCtOk_cons (tCok_83 hT) (tKok_83 hT)
set_option maxRecDepth 100000 in
/-- X12_pairOf, 188 steps -/
theorem tCok_84 (hT : aTabOk) : tCtOk tC_84 := tCt_of (K := (tPt_, tKs_84)) hT (tKok_84 hT) (n := 20000) rfl (by decide +kernel)
theorem tKok_85 (hT : aTabOk) : ∀ c ∈ tKs_85, tCtOk c := tCtOk_cons (tCok_84 hT) (tKok_84 hT)
set_option maxRecDepth 100000 in
/-- X12_counts, 123 steps -/
theorem tCok_85 (hT : aTabOk) : tCtOk tC_85 := tCt_of (K := (tPt_, tKs_85)) hT (tKok_85 hT) (n := 20000) rfl (by decide +kernel)
theorem tKok_86 (hT : aTabOk) : ∀ c ∈ tKs_86, tCtOk c := tCtOk_cons (tCok_85 hT) (tKok_85 hT)
theorem tCok_86 (hT : aTabOk) : tCtOk tC_86 := sorry -- X12_findRow
theorem tKok_87 (hT : aTabOk) : ∀ c ∈ tKs_87, tCtOk c := tCtOk_cons (tCok_86 hT) (tKok_86 hT)
theorem tCok_87 (hT : aTabOk) : tCtOk tC_87 := sorry -- X12_parse
theorem tKok_88 (hT : aTabOk) : ∀ c ∈ tKs_88, tCtOk c := tCtOk_cons (tCok_87 hT) (tKok_87 hT)
set_option maxRecDepth 100000 in
/-- X12_minute, 614 steps -/
theorem tCok_88 (hT : aTabOk) : tCtOk tC_88 := tCt_of (K := (tPt_, tKs_88)) hT (tKok_88 hT) (n := 20000) rfl (by decide +kernel)
theorem tKok_89 (hT : aTabOk) : ∀ c ∈ tKs_89, tCtOk c := tCtOk_cons (tCok_88 hT) (tKok_88 hT)
set_option maxRecDepth 100000 in
/-- X12_findNight, 441 steps -/
theorem tCok_89 (hT : aTabOk) : tCtOk tC_89 := tCt_of (K := (tPt_, tKs_89)) hT (tKok_89 hT) (n := 20000) rfl (by decide +kernel)
theorem tKok_90 (hT : aTabOk) : ∀ c ∈ tKs_90, tCtOk c := tCtOk_cons (tCok_89 hT) (tKok_89 hT)
set_option maxRecDepth 100000 in
/-- X12_votes, 780 steps -/
theorem tCok_90 (hT : aTabOk) : tCtOk tC_90 := tCt_of (K := (tPt_, tKs_90)) hT (tKok_90 hT) (n := 20000) rfl (by decide +kernel)
theorem tKok_91 (hT : aTabOk) : ∀ c ∈ tKs_91, tCtOk c := tCtOk_cons (tCok_90 hT) (tKok_90 hT)
set_option maxRecDepth 100000 in
/-- X12_present, 31 steps -/
theorem tCok_91 (hT : aTabOk) : tCtOk tC_91 := tCt_of (K := (tPt_, tKs_91)) hT (tKok_91 hT) (n := 20000) rfl (by decide +kernel)
theorem tKok_92 (hT : aTabOk) : ∀ c ∈ tKs_92, tCtOk c := tCtOk_cons (tCok_91 hT) (tKok_91 hT)
