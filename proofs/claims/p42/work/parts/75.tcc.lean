/-! CONTRACTS, by runs in the kernel -/
set_option maxRecDepth 100000 in
/-- X5_takePart, 749 steps -/
theorem tCok_23 (hT : aTabOk) : tCtOk tC_23 := tCt_of (K := (tPt_, tKs_23)) hT (tKok_23 hT) (n := 20000) rfl (by decide +kernel)
theorem tKok_24 (hT : aTabOk) : ∀ c ∈ tKs_24, tCtOk c := tCtOk_cons (tCok_23 hT) (tKok_23 hT)
set_option maxRecDepth 100000 in
/-- X5_takeSign, 1574 steps -/
theorem tCok_24 (hT : aTabOk) : tCtOk tC_24 := tCt_of (K := (tPt_, tKs_24)) hT (tKok_24 hT) (n := 20000) rfl (by decide +kernel)
theorem tKok_25 (hT : aTabOk) : ∀ c ∈ tKs_25, tCtOk c := tCtOk_cons (tCok_24 hT) (tKok_24 hT)
set_option maxRecDepth 100000 in
/-- X5_faultOf, 467 steps -/
theorem tCok_25 (hT : aTabOk) : tCtOk tC_25 := tCt_of (K := (tPt_, tKs_25)) hT (tKok_25 hT) (n := 20000) rfl (by decide +kernel)
theorem tKok_26 (hT : aTabOk) : ∀ c ∈ tKs_26, tCtOk c := tCtOk_cons (tCok_25 hT) (tKok_25 hT)
set_option maxRecDepth 100000 in
/-- X11_member, 107 steps -/
theorem tCok_26 (hT : aTabOk) : tCtOk tC_26 := tCt_of (K := (tPt_, tKs_26)) hT (tKok_26 hT) (n := 20000) rfl (by decide +kernel)
theorem tKok_27 (hT : aTabOk) : ∀ c ∈ tKs_27, tCtOk c := tCtOk_cons (tCok_26 hT) (tKok_26 hT)
set_option maxRecDepth 100000 in
/-- X11_is, 158 steps -/
theorem tCok_27 (hT : aTabOk) : tCtOk tC_27 := tCt_of (K := (tPt_, tKs_27)) hT (tKok_27 hT) (n := 20000) rfl (by decide +kernel)
theorem tKok_28 (hT : aTabOk) : ∀ c ∈ tKs_28, tCtOk c := tCtOk_cons (tCok_27 hT) (tKok_27 hT)
set_option maxRecDepth 100000 in
/-- X11_train, 129 steps -/
theorem tCok_28 (hT : aTabOk) : tCtOk tC_28 := tCt_of (K := (tPt_, tKs_28)) hT (tKok_28 hT) (n := 20000) rfl (by decide +kernel)
theorem tKok_29 (hT : aTabOk) : ∀ c ∈ tKs_29, tCtOk c := tCtOk_cons (tCok_28 hT) (tKok_28 hT)
set_option maxRecDepth 100000 in
/-- X11_go, 73 steps -/
theorem tCok_29 (hT : aTabOk) : tCtOk tC_29 := tCt_of (K := (tPt_, tKs_29)) hT (tKok_29 hT) (n := 20000) rfl (by decide +kernel)
theorem tKok_30 (hT : aTabOk) : ∀ c ∈ tKs_30, tCtOk c := tCtOk_cons (tCok_29 hT) (tKok_29 hT)
set_option maxRecDepth 100000 in
/-- X11_pair, 570 steps -/
theorem tCok_30 (hT : aTabOk) : tCtOk tC_30 := tCt_of (K := (tPt_, tKs_30)) hT (tKok_30 hT) (n := 20000) rfl (by decide +kernel)
theorem tKok_31 (hT : aTabOk) : ∀ c ∈ tKs_31, tCtOk c := tCtOk_cons (tCok_30 hT) (tKok_30 hT)
set_option maxRecDepth 100000 in
/-- X11_breaks, 60 steps -/
theorem tCok_31 (hT : aTabOk) : tCtOk tC_31 := tCt_of (K := (tPt_, tKs_31)) hT (tKok_31 hT) (n := 20000) rfl (by decide +kernel)
theorem tKok_32 (hT : aTabOk) : ∀ c ∈ tKs_32, tCtOk c := tCtOk_cons (tCok_31 hT) (tKok_31 hT)
set_option maxRecDepth 100000 in
/-- X11_clock, 68 steps -/
theorem tCok_32 (hT : aTabOk) : tCtOk tC_32 := tCt_of (K := (tPt_, tKs_32)) hT (tKok_32 hT) (n := 20000) rfl (by decide +kernel)
theorem tKok_33 (hT : aTabOk) : ∀ c ∈ tKs_33, tCtOk c := tCtOk_cons (tCok_32 hT) (tKok_32 hT)
set_option maxRecDepth 100000 in
/-- X11_run, 479 steps -/
theorem tCok_33 (hT : aTabOk) : tCtOk tC_33 := tCt_of (K := (tPt_, tKs_33)) hT (tKok_33 hT) (n := 20000) rfl (by decide +kernel)
theorem tKok_34 (hT : aTabOk) : ∀ c ∈ tKs_34, tCtOk c := tCtOk_cons (tCok_33 hT) (tKok_33 hT)
set_option maxRecDepth 100000 in
/-- X11_paper, 1621 steps -/
theorem tCok_34 (hT : aTabOk) : tCtOk tC_34 := tCt_of (K := (tPt_, tKs_34)) hT (tKok_34 hT) (n := 20000) rfl (by decide +kernel)
theorem tKok_35 (hT : aTabOk) : ∀ c ∈ tKs_35, tCtOk c := tCtOk_cons (tCok_34 hT) (tKok_34 hT)
set_option maxRecDepth 100000 in
/-- X11_hung, 331 steps -/
theorem tCok_35 (hT : aTabOk) : tCtOk tC_35 := tCt_of (K := (tPt_, tKs_35)) hT (tKok_35 hT) (n := 20000) rfl (by decide +kernel)
theorem tKok_36 (hT : aTabOk) : ∀ c ∈ tKs_36, tCtOk c := tCtOk_cons (tCok_35 hT) (tKok_35 hT)
set_option maxRecDepth 100000 in
/-- X11_told, 102 steps -/
theorem tCok_36 (hT : aTabOk) : tCtOk tC_36 := tCt_of (K := (tPt_, tKs_36)) hT (tKok_36 hT) (n := 20000) rfl (by decide +kernel)
theorem tKok_37 (hT : aTabOk) : ∀ c ∈ tKs_37, tCtOk c := tCtOk_cons (tCok_36 hT) (tKok_36 hT)
set_option maxRecDepth 100000 in
/-- X11_as, 206 steps -/
theorem tCok_37 (hT : aTabOk) : tCtOk tC_37 := tCt_of (K := (tPt_, tKs_37)) hT (tKok_37 hT) (n := 20000) rfl (by decide +kernel)
theorem tKok_38 (hT : aTabOk) : ∀ c ∈ tKs_38, tCtOk c := tCtOk_cons (tCok_37 hT) (tKok_37 hT)
set_option maxRecDepth 100000 in
/-- X11_stance, 106 steps -/
theorem tCok_38 (hT : aTabOk) : tCtOk tC_38 := tCt_of (K := (tPt_, tKs_38)) hT (tKok_38 hT) (n := 20000) rfl (by decide +kernel)
theorem tKok_39 (hT : aTabOk) : ∀ c ∈ tKs_39, tCtOk c := tCtOk_cons (tCok_38 hT) (tKok_38 hT)
set_option maxRecDepth 100000 in
/-- X11_print, 181 steps -/
theorem tCok_39 (hT : aTabOk) : tCtOk tC_39 := tCt_of (K := (tPt_, tKs_39)) hT (tKok_39 hT) (n := 20000) rfl (by decide +kernel)
theorem tKok_40 (hT : aTabOk) : ∀ c ∈ tKs_40, tCtOk c := tCtOk_cons (tCok_39 hT) (tKok_39 hT)
set_option maxRecDepth 100000 in
/-- X11_read, 134 steps -/
theorem tCok_40 (hT : aTabOk) : tCtOk tC_40 := tCt_of (K := (tPt_, tKs_40)) hT (tKok_40 hT) (n := 20000) rfl (by decide +kernel)
theorem tKok_41 (hT : aTabOk) : ∀ c ∈ tKs_41, tCtOk c := tCtOk_cons (tCok_40 hT) (tKok_40 hT)
set_option maxRecDepth 100000 in
/-- X11_would, 141 steps -/
theorem tCok_41 (hT : aTabOk) : tCtOk tC_41 := tCt_of (K := (tPt_, tKs_41)) hT (tKok_41 hT) (n := 20000) rfl (by decide +kernel)
theorem tKok_42 (hT : aTabOk) : ∀ c ∈ tKs_42, tCtOk c := tCtOk_cons (tCok_41 hT) (tKok_41 hT)
set_option maxRecDepth 100000 in
/-- X11_put, 756 steps -/
theorem tCok_42 (hT : aTabOk) : tCtOk tC_42 := tCt_of (K := (tPt_, tKs_42)) hT (tKok_42 hT) (n := 20000) rfl (by decide +kernel)
theorem tKok_43 (hT : aTabOk) : ∀ c ∈ tKs_43, tCtOk c := tCtOk_cons (tCok_42 hT) (tKok_42 hT)
