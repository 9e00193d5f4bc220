/-! CONTRACTS, by runs in the kernel -/
set_option maxRecDepth 100000 in
/-- X5_takePart, 749 steps -/
theorem tCok_23 (hT : aTabOk) (hK : ∀ c ∈ tKs_23, tCtOk c) : tCtOk tC_23 := tCt_of (K := (tPt_, tKs_23)) hT hK (n := 20000) rfl (by decide +kernel)
set_option maxRecDepth 100000 in
/-- X5_takeSign, 1574 steps -/
theorem tCok_24 (hT : aTabOk) (hK : ∀ c ∈ tKs_24, tCtOk c) : tCtOk tC_24 := tCt_of (K := (tPt_, tKs_24)) hT hK (n := 20000) rfl (by decide +kernel)
set_option maxRecDepth 100000 in
/-- X5_faultOf, 467 steps -/
theorem tCok_25 (hT : aTabOk) (hK : ∀ c ∈ tKs_25, tCtOk c) : tCtOk tC_25 := tCt_of (K := (tPt_, tKs_25)) hT hK (n := 20000) rfl (by decide +kernel)
set_option maxRecDepth 100000 in
/-- X11_member, 107 steps -/
theorem tCok_26 (hT : aTabOk) (hK : ∀ c ∈ tKs_26, tCtOk c) : tCtOk tC_26 := tCt_of (K := (tPt_, tKs_26)) hT hK (n := 20000) rfl (by decide +kernel)
set_option maxRecDepth 100000 in
/-- X11_is, 158 steps -/
theorem tCok_27 (hT : aTabOk) (hK : ∀ c ∈ tKs_27, tCtOk c) : tCtOk tC_27 := tCt_of (K := (tPt_, tKs_27)) hT hK (n := 20000) rfl (by decide +kernel)
set_option maxRecDepth 100000 in
/-- X11_train, 129 steps -/
theorem tCok_28 (hT : aTabOk) (hK : ∀ c ∈ tKs_28, tCtOk c) : tCtOk tC_28 := tCt_of (K := (tPt_, tKs_28)) hT hK (n := 20000) rfl (by decide +kernel)
set_option maxRecDepth 100000 in
/-- X11_go, 73 steps -/
theorem tCok_29 (hT : aTabOk) (hK : ∀ c ∈ tKs_29, tCtOk c) : tCtOk tC_29 := tCt_of (K := (tPt_, tKs_29)) hT hK (n := 20000) rfl (by decide +kernel)
set_option maxRecDepth 100000 in
/-- X11_pair, 570 steps -/
theorem tCok_30 (hT : aTabOk) (hK : ∀ c ∈ tKs_30, tCtOk c) : tCtOk tC_30 := tCt_of (K := (tPt_, tKs_30)) hT hK (n := 20000) rfl (by decide +kernel)
set_option maxRecDepth 100000 in
/-- X11_breaks, 60 steps -/
theorem tCok_31 (hT : aTabOk) (hK : ∀ c ∈ tKs_31, tCtOk c) : tCtOk tC_31 := tCt_of (K := (tPt_, tKs_31)) hT hK (n := 20000) rfl (by decide +kernel)
set_option maxRecDepth 100000 in
/-- X11_clock, 68 steps -/
theorem tCok_32 (hT : aTabOk) (hK : ∀ c ∈ tKs_32, tCtOk c) : tCtOk tC_32 := tCt_of (K := (tPt_, tKs_32)) hT hK (n := 20000) rfl (by decide +kernel)
set_option maxRecDepth 100000 in
/-- X11_run, 479 steps -/
theorem tCok_33 (hT : aTabOk) (hK : ∀ c ∈ tKs_33, tCtOk c) : tCtOk tC_33 := tCt_of (K := (tPt_, tKs_33)) hT hK (n := 20000) rfl (by decide +kernel)
set_option maxRecDepth 100000 in
/-- X11_paper, 1621 steps -/
theorem tCok_34 (hT : aTabOk) (hK : ∀ c ∈ tKs_34, tCtOk c) : tCtOk tC_34 := tCt_of (K := (tPt_, tKs_34)) hT hK (n := 20000) rfl (by decide +kernel)
set_option maxRecDepth 100000 in
/-- X11_hung, 331 steps -/
theorem tCok_35 (hT : aTabOk) (hK : ∀ c ∈ tKs_35, tCtOk c) : tCtOk tC_35 := tCt_of (K := (tPt_, tKs_35)) hT hK (n := 20000) rfl (by decide +kernel)
set_option maxRecDepth 100000 in
/-- X11_told, 102 steps -/
theorem tCok_36 (hT : aTabOk) (hK : ∀ c ∈ tKs_36, tCtOk c) : tCtOk tC_36 := tCt_of (K := (tPt_, tKs_36)) hT hK (n := 20000) rfl (by decide +kernel)
set_option maxRecDepth 100000 in
/-- X11_as, 206 steps -/
theorem tCok_37 (hT : aTabOk) (hK : ∀ c ∈ tKs_37, tCtOk c) : tCtOk tC_37 := tCt_of (K := (tPt_, tKs_37)) hT hK (n := 20000) rfl (by decide +kernel)
set_option maxRecDepth 100000 in
/-- X11_stance, 106 steps -/
theorem tCok_38 (hT : aTabOk) (hK : ∀ c ∈ tKs_38, tCtOk c) : tCtOk tC_38 := tCt_of (K := (tPt_, tKs_38)) hT hK (n := 20000) rfl (by decide +kernel)
set_option maxRecDepth 100000 in
/-- X11_print, 181 steps -/
theorem tCok_39 (hT : aTabOk) (hK : ∀ c ∈ tKs_39, tCtOk c) : tCtOk tC_39 := tCt_of (K := (tPt_, tKs_39)) hT hK (n := 20000) rfl (by decide +kernel)
set_option maxRecDepth 100000 in
/-- X11_read, 134 steps -/
theorem tCok_40 (hT : aTabOk) (hK : ∀ c ∈ tKs_40, tCtOk c) : tCtOk tC_40 := tCt_of (K := (tPt_, tKs_40)) hT hK (n := 20000) rfl (by decide +kernel)
set_option maxRecDepth 100000 in
/-- X11_would, 141 steps -/
theorem tCok_41 (hT : aTabOk) (hK : ∀ c ∈ tKs_41, tCtOk c) : tCtOk tC_41 := tCt_of (K := (tPt_, tKs_41)) hT hK (n := 20000) rfl (by decide +kernel)
set_option maxRecDepth 100000 in
/-- X11_put, 756 steps -/
theorem tCok_42 (hT : aTabOk) (hK : ∀ c ∈ tKs_42, tCtOk c) : tCtOk tC_42 := tCt_of (K := (tPt_, tKs_42)) hT hK (n := 20000) rfl (by decide +kernel)
