/-! CONTRACTS, by runs in the kernel -/
set_option maxRecDepth 100000 in
/-- X11_rule, 1024 steps -/
theorem tCok_43 (hT : aTabOk) : tCtOk tC_43 := tCt_of (K := (tPt_, tKs_43)) hT (tKok_43 hT) (n := 20000) rfl (by decide +kernel)
theorem tKok_44 (hT : aTabOk) : ∀ c ∈ tKs_44, tCtOk c := tCtOk_cons (tCok_43 hT) (tKok_43 hT)
set_option maxRecDepth 100000 in
/-- X11_mend, 99 steps -/
theorem tCok_44 (hT : aTabOk) : tCtOk tC_44 := tCt_of (K := (tPt_, tKs_44)) hT (tKok_44 hT) (n := 20000) rfl (by decide +kernel)
theorem tKok_45 (hT : aTabOk) : ∀ c ∈ tKs_45, tCtOk c := tCtOk_cons (tCok_44 hT) (tKok_44 hT)
set_option maxRecDepth 100000 in
/-- X11_falls, 392 steps -/
theorem tCok_45 (hT : aTabOk) : tCtOk tC_45 := tCt_of (K := (tPt_, tKs_45)) hT (tKok_45 hT) (n := 20000) rfl (by decide +kernel)
theorem tKok_46 (hT : aTabOk) : ∀ c ∈ tKs_46, tCtOk c := tCtOk_cons (tCok_45 hT) (tKok_45 hT)
set_option maxRecDepth 100000 in
/-- X11_never, 505 steps -/
theorem tCok_46 (hT : aTabOk) : tCtOk tC_46 := tCt_of (K := (tPt_, tKs_46)) hT (tKok_46 hT) (n := 20000) rfl (by decide +kernel)
theorem tKok_47 (hT : aTabOk) : ∀ c ∈ tKs_47, tCtOk c := tCtOk_cons (tCok_46 hT) (tKok_46 hT)
set_option maxRecDepth 100000 in
/-- X11_row, 26 steps -/
theorem tCok_47 (hT : aTabOk) : tCtOk tC_47 := tCt_of (K := (tPt_, tKs_47)) hT (tKok_47 hT) (n := 20000) rfl (by decide +kernel)
theorem tKok_48 (hT : aTabOk) : ∀ c ∈ tKs_48, tCtOk c := tCtOk_cons (tCok_47 hT) (tKok_47 hT)
set_option maxRecDepth 100000 in
/-- X11_line, 1078 steps -/
theorem tCok_48 (hT : aTabOk) : tCtOk tC_48 := tCt_of (K := (tPt_, tKs_48)) hT (tKok_48 hT) (n := 20000) rfl (by decide +kernel)
theorem tKok_49 (hT : aTabOk) : ∀ c ∈ tKs_49, tCtOk c := tCtOk_cons (tCok_48 hT) (tKok_48 hT)
set_option maxRecDepth 100000 in
/-- X11_feed, 264 steps -/
theorem tCok_49 (hT : aTabOk) : tCtOk tC_49 := tCt_of (K := (tPt_, tKs_49)) hT (tKok_49 hT) (n := 20000) rfl (by decide +kernel)
theorem tKok_50 (hT : aTabOk) : ∀ c ∈ tKs_50, tCtOk c := tCtOk_cons (tCok_49 hT) (tKok_49 hT)
set_option maxRecDepth 100000 in
/-- X11_trim, 37 steps -/
theorem tCok_50 (hT : aTabOk) : tCtOk tC_50 := tCt_of (K := (tPt_, tKs_50)) hT (tKok_50 hT) (n := 20000) rfl (by decide +kernel)
theorem tKok_51 (hT : aTabOk) : ∀ c ∈ tKs_51, tCtOk c := tCtOk_cons (tCok_50 hT) (tKok_50 hT)
set_option maxRecDepth 100000 in
/-- X11_text, 137 steps -/
theorem tCok_51 (hT : aTabOk) : tCtOk tC_51 := tCt_of (K := (tPt_, tKs_51)) hT (tKok_51 hT) (n := 20000) rfl (by decide +kernel)
theorem tKok_52 (hT : aTabOk) : ∀ c ∈ tKs_52, tCtOk c := tCtOk_cons (tCok_51 hT) (tKok_51 hT)
set_option maxRecDepth 100000 in
/-- X11_of, 47 steps -/
theorem tCok_52 (hT : aTabOk) : tCtOk tC_52 := tCt_of (K := (tPt_, tKs_52)) hT (tKok_52 hT) (n := 20000) rfl (by decide +kernel)
theorem tKok_53 (hT : aTabOk) : ∀ c ∈ tKs_53, tCtOk c := tCtOk_cons (tCok_52 hT) (tKok_52 hT)
set_option maxRecDepth 100000 in
/-- X11_why, 39 steps -/
theorem tCok_53 (hT : aTabOk) : tCtOk tC_53 := tCt_of (K := (tPt_, tKs_53)) hT (tKok_53 hT) (n := 20000) rfl (by decide +kernel)
theorem tKok_54 (hT : aTabOk) : ∀ c ∈ tKs_54, tCtOk c := tCtOk_cons (tCok_53 hT) (tKok_53 hT)
set_option maxRecDepth 100000 in
/-- X11_income, 88 steps -/
theorem tCok_54 (hT : aTabOk) : tCtOk tC_54 := tCt_of (K := (tPt_, tKs_54)) hT (tKok_54 hT) (n := 20000) rfl (by decide +kernel)
theorem tKok_55 (hT : aTabOk) : ∀ c ∈ tKs_55, tCtOk c := tCtOk_cons (tCok_54 hT) (tKok_54 hT)
set_option maxRecDepth 100000 in
/-- X11_balance, 877 steps -/
theorem tCok_55 (hT : aTabOk) : tCtOk tC_55 := tCt_of (K := (tPt_, tKs_55)) hT (tKok_55 hT) (n := 20000) rfl (by decide +kernel)
theorem tKok_56 (hT : aTabOk) : ∀ c ∈ tKs_56, tCtOk c := tCtOk_cons (tCok_55 hT) (tKok_55 hT)
set_option maxRecDepth 100000 in
/-- X11_first, 2370 steps -/
theorem tCok_56 (hT : aTabOk) : tCtOk tC_56 := tCt_of (K := (tPt_, tKs_56)) hT (tKok_56 hT) (n := 20000) rfl (by decide +kernel)
theorem tKok_57 (hT : aTabOk) : ∀ c ∈ tKs_57, tCtOk c := tCtOk_cons (tCok_56 hT) (tKok_56 hT)
set_option maxRecDepth 100000 in
/-- X11_book, 155 steps -/
theorem tCok_57 (hT : aTabOk) : tCtOk tC_57 := tCt_of (K := (tPt_, tKs_57)) hT (tKok_57 hT) (n := 20000) rfl (by decide +kernel)
theorem tKok_58 (hT : aTabOk) : ∀ c ∈ tKs_58, tCtOk c := tCtOk_cons (tCok_57 hT) (tKok_57 hT)
set_option maxRecDepth 100000 in
/-- X11_note, 424 steps -/
theorem tCok_58 (hT : aTabOk) : tCtOk tC_58 := tCt_of (K := (tPt_, tKs_58)) hT (tKok_58 hT) (n := 20000) rfl (by decide +kernel)
theorem tKok_59 (hT : aTabOk) : ∀ c ∈ tKs_59, tCtOk c := tCtOk_cons (tCok_58 hT) (tKok_58 hT)
set_option maxRecDepth 100000 in
/-- X11_looks, 619 steps -/
theorem tCok_59 (hT : aTabOk) : tCtOk tC_59 := tCt_of (K := (tPt_, tKs_59)) hT (tKok_59 hT) (n := 20000) rfl (by decide +kernel)
theorem tKok_60 (hT : aTabOk) : ∀ c ∈ tKs_60, tCtOk c := tCtOk_cons (tCok_59 hT) (tKok_59 hT)
