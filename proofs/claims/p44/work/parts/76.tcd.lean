/-! CONTRACTS, by runs in the kernel -/
set_option maxRecDepth 100000 in
/-- X11_rule, 1024 steps -/
theorem tCok_43 (hT : aTabOk) (hK : ∀ c ∈ tKs_43, tCtOk c) : tCtOk tC_43 := tCt_of (K := (tPt_, tKs_43)) hT hK (n := 20000) rfl (by decide +kernel)
set_option maxRecDepth 100000 in
/-- X11_mend, 99 steps -/
theorem tCok_44 (hT : aTabOk) (hK : ∀ c ∈ tKs_44, tCtOk c) : tCtOk tC_44 := tCt_of (K := (tPt_, tKs_44)) hT hK (n := 20000) rfl (by decide +kernel)
set_option maxRecDepth 100000 in
/-- X11_falls, 392 steps -/
theorem tCok_45 (hT : aTabOk) (hK : ∀ c ∈ tKs_45, tCtOk c) : tCtOk tC_45 := tCt_of (K := (tPt_, tKs_45)) hT hK (n := 20000) rfl (by decide +kernel)
set_option maxRecDepth 100000 in
/-- X11_never, 505 steps -/
theorem tCok_46 (hT : aTabOk) (hK : ∀ c ∈ tKs_46, tCtOk c) : tCtOk tC_46 := tCt_of (K := (tPt_, tKs_46)) hT hK (n := 20000) rfl (by decide +kernel)
set_option maxRecDepth 100000 in
/-- X11_row, 26 steps -/
theorem tCok_47 (hT : aTabOk) (hK : ∀ c ∈ tKs_47, tCtOk c) : tCtOk tC_47 := tCt_of (K := (tPt_, tKs_47)) hT hK (n := 20000) rfl (by decide +kernel)
set_option maxRecDepth 100000 in
/-- X11_line, 1078 steps -/
theorem tCok_48 (hT : aTabOk) (hK : ∀ c ∈ tKs_48, tCtOk c) : tCtOk tC_48 := tCt_of (K := (tPt_, tKs_48)) hT hK (n := 20000) rfl (by decide +kernel)
set_option maxRecDepth 100000 in
/-- X11_feed, 264 steps -/
theorem tCok_49 (hT : aTabOk) (hK : ∀ c ∈ tKs_49, tCtOk c) : tCtOk tC_49 := tCt_of (K := (tPt_, tKs_49)) hT hK (n := 20000) rfl (by decide +kernel)
set_option maxRecDepth 100000 in
/-- X11_trim, 37 steps -/
theorem tCok_50 (hT : aTabOk) (hK : ∀ c ∈ tKs_50, tCtOk c) : tCtOk tC_50 := tCt_of (K := (tPt_, tKs_50)) hT hK (n := 20000) rfl (by decide +kernel)
set_option maxRecDepth 100000 in
/-- X11_text, 137 steps -/
theorem tCok_51 (hT : aTabOk) (hK : ∀ c ∈ tKs_51, tCtOk c) : tCtOk tC_51 := tCt_of (K := (tPt_, tKs_51)) hT hK (n := 20000) rfl (by decide +kernel)
set_option maxRecDepth 100000 in
/-- X11_of, 47 steps -/
theorem tCok_52 (hT : aTabOk) (hK : ∀ c ∈ tKs_52, tCtOk c) : tCtOk tC_52 := tCt_of (K := (tPt_, tKs_52)) hT hK (n := 20000) rfl (by decide +kernel)
set_option maxRecDepth 100000 in
/-- X11_why, 39 steps -/
theorem tCok_53 (hT : aTabOk) (hK : ∀ c ∈ tKs_53, tCtOk c) : tCtOk tC_53 := tCt_of (K := (tPt_, tKs_53)) hT hK (n := 20000) rfl (by decide +kernel)
set_option maxRecDepth 100000 in
/-- X11_income, 88 steps -/
theorem tCok_54 (hT : aTabOk) (hK : ∀ c ∈ tKs_54, tCtOk c) : tCtOk tC_54 := tCt_of (K := (tPt_, tKs_54)) hT hK (n := 20000) rfl (by decide +kernel)
set_option maxRecDepth 100000 in
/-- X11_balance, 877 steps -/
theorem tCok_55 (hT : aTabOk) (hK : ∀ c ∈ tKs_55, tCtOk c) : tCtOk tC_55 := tCt_of (K := (tPt_, tKs_55)) hT hK (n := 20000) rfl (by decide +kernel)
set_option maxRecDepth 100000 in
/-- X11_first, 2370 steps -/
theorem tCok_56 (hT : aTabOk) (hK : ∀ c ∈ tKs_56, tCtOk c) : tCtOk tC_56 := tCt_of (K := (tPt_, tKs_56)) hT hK (n := 20000) rfl (by decide +kernel)
set_option maxRecDepth 100000 in
/-- X11_book, 155 steps -/
theorem tCok_57 (hT : aTabOk) (hK : ∀ c ∈ tKs_57, tCtOk c) : tCtOk tC_57 := tCt_of (K := (tPt_, tKs_57)) hT hK (n := 20000) rfl (by decide +kernel)
set_option maxRecDepth 100000 in
/-- X11_note, 424 steps -/
theorem tCok_58 (hT : aTabOk) (hK : ∀ c ∈ tKs_58, tCtOk c) : tCtOk tC_58 := tCt_of (K := (tPt_, tKs_58)) hT hK (n := 20000) rfl (by decide +kernel)
set_option maxRecDepth 100000 in
/-- X11_looks, 619 steps -/
theorem tCok_59 (hT : aTabOk) (hK : ∀ c ∈ tKs_59, tCtOk c) : tCtOk tC_59 := tCt_of (K := (tPt_, tKs_59)) hT hK (n := 20000) rfl (by decide +kernel)
