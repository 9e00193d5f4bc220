/-! CONTRACTS, by runs in the kernel -/
set_option maxRecDepth 100000 in
/-- X11_span, 469 steps -/
theorem tCok_61 (hT : aTabOk) (hK : ∀ c ∈ tKs_61, tCtOk c) : tCtOk tC_61 := tCt_of (K := (tPt_, tKs_61)) hT hK (n := 20000) rfl (by decide +kernel)
set_option maxRecDepth 100000 in
/-- X11_wish, 71 steps -/
theorem tCok_62 (hT : aTabOk) (hK : ∀ c ∈ tKs_62, tCtOk c) : tCtOk tC_62 := tCt_of (K := (tPt_, tKs_62)) hT hK (n := 20000) rfl (by decide +kernel)
set_option maxRecDepth 100000 in
/-- X11_carry, 1343 steps -/
theorem tCok_63 (hT : aTabOk) (hK : ∀ c ∈ tKs_63, tCtOk c) : tCtOk tC_63 := tCt_of (K := (tPt_, tKs_63)) hT hK (n := 20000) rfl (by decide +kernel)
set_option maxRecDepth 100000 in
/-- X11_interpreter, 29 steps -/
theorem tCok_64 (hT : aTabOk) (hK : ∀ c ∈ tKs_64, tCtOk c) : tCtOk tC_64 := tCt_of (K := (tPt_, tKs_64)) hT hK (n := 20000) rfl (by decide +kernel)
set_option maxRecDepth 100000 in
/-- X11_speaks, 262 steps -/
theorem tCok_65 (hT : aTabOk) (hK : ∀ c ∈ tKs_65, tCtOk c) : tCtOk tC_65 := tCt_of (K := (tPt_, tKs_65)) hT hK (n := 20000) rfl (by decide +kernel)
set_option maxRecDepth 100000 in
/-- X11_speech, 277 steps -/
theorem tCok_66 (hT : aTabOk) (hK : ∀ c ∈ tKs_66, tCtOk c) : tCtOk tC_66 := tCt_of (K := (tPt_, tKs_66)) hT hK (n := 20000) rfl (by decide +kernel)
set_option maxRecDepth 100000 in
/-- X11_heard, 1639 steps -/
theorem tCok_67 (hT : aTabOk) (hK : ∀ c ∈ tKs_67, tCtOk c) : tCtOk tC_67 := tCt_of (K := (tPt_, tKs_67)) hT hK (n := 20000) rfl (by decide +kernel)
set_option maxRecDepth 100000 in
/-- X11_shift, 2956 steps -/
theorem tCok_68 (hT : aTabOk) (hK : ∀ c ∈ tKs_68, tCtOk c) : tCtOk tC_68 := tCt_of (K := (tPt_, tKs_68)) hT hK (n := 20000) rfl (by decide +kernel)
set_option maxRecDepth 100000 in
/-- X11_offer, 155 steps -/
theorem tCok_69 (hT : aTabOk) (hK : ∀ c ∈ tKs_69, tCtOk c) : tCtOk tC_69 := tCt_of (K := (tPt_, tKs_69)) hT hK (n := 20000) rfl (by decide +kernel)
set_option maxRecDepth 100000 in
/-- X11_night, 524 steps -/
theorem tCok_70 (hT : aTabOk) (hK : ∀ c ∈ tKs_70, tCtOk c) : tCtOk tC_70 := tCt_of (K := (tPt_, tKs_70)) hT hK (n := 20000) rfl (by decide +kernel)
set_option maxRecDepth 100000 in
/-- X11_tell, 21 steps -/
theorem tCok_71 (hT : aTabOk) (hK : ∀ c ∈ tKs_71, tCtOk c) : tCtOk tC_71 := tCt_of (K := (tPt_, tKs_71)) hT hK (n := 20000) rfl (by decide +kernel)
