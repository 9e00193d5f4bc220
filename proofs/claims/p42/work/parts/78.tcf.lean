/-! CONTRACTS, by runs in the kernel -/
set_option maxRecDepth 100000 in
/-- X11_span, 469 steps -/
theorem tCok_61 (hT : aTabOk) : tCtOk tC_61 := tCt_of (K := (tPt_, tKs_61)) hT (tKok_61 hT) (n := 20000) rfl (by decide +kernel)
theorem tKok_62 (hT : aTabOk) : ∀ c ∈ tKs_62, tCtOk c := tCtOk_cons (tCok_61 hT) (tKok_61 hT)
set_option maxRecDepth 100000 in
/-- X11_wish, 71 steps -/
theorem tCok_62 (hT : aTabOk) : tCtOk tC_62 := tCt_of (K := (tPt_, tKs_62)) hT (tKok_62 hT) (n := 20000) rfl (by decide +kernel)
theorem tKok_63 (hT : aTabOk) : ∀ c ∈ tKs_63, tCtOk c := tCtOk_cons (tCok_62 hT) (tKok_62 hT)
set_option maxRecDepth 100000 in
/-- X11_carry, 1343 steps -/
theorem tCok_63 (hT : aTabOk) : tCtOk tC_63 := tCt_of (K := (tPt_, tKs_63)) hT (tKok_63 hT) (n := 20000) rfl (by decide +kernel)
theorem tKok_64 (hT : aTabOk) : ∀ c ∈ tKs_64, tCtOk c := tCtOk_cons (tCok_63 hT) (tKok_63 hT)
set_option maxRecDepth 100000 in
/-- X11_interpreter, 29 steps -/
theorem tCok_64 (hT : aTabOk) : tCtOk tC_64 := tCt_of (K := (tPt_, tKs_64)) hT (tKok_64 hT) (n := 20000) rfl (by decide +kernel)
theorem tKok_65 (hT : aTabOk) : ∀ c ∈ tKs_65, tCtOk c := tCtOk_cons (tCok_64 hT) (tKok_64 hT)
set_option maxRecDepth 100000 in
/-- X11_speaks, 262 steps -/
theorem tCok_65 (hT : aTabOk) : tCtOk tC_65 := tCt_of (K := (tPt_, tKs_65)) hT (tKok_65 hT) (n := 20000) rfl (by decide +kernel)
theorem tKok_66 (hT : aTabOk) : ∀ c ∈ tKs_66, tCtOk c := tCtOk_cons (tCok_65 hT) (tKok_65 hT)
set_option maxRecDepth 100000 in
/-- X11_speech, 277 steps -/
theorem tCok_66 (hT : aTabOk) : tCtOk tC_66 := tCt_of (K := (tPt_, tKs_66)) hT (tKok_66 hT) (n := 20000) rfl (by decide +kernel)
theorem tKok_67 (hT : aTabOk) : ∀ c ∈ tKs_67, tCtOk c := tCtOk_cons (tCok_66 hT) (tKok_66 hT)
set_option maxRecDepth 100000 in
/-- X11_heard, 1639 steps -/
theorem tCok_67 (hT : aTabOk) : tCtOk tC_67 := tCt_of (K := (tPt_, tKs_67)) hT (tKok_67 hT) (n := 20000) rfl (by decide +kernel)
theorem tKok_68 (hT : aTabOk) : ∀ c ∈ tKs_68, tCtOk c := tCtOk_cons (tCok_67 hT) (tKok_67 hT)
set_option maxRecDepth 100000 in
/-- X11_shift, 2956 steps -/
theorem tCok_68 (hT : aTabOk) : tCtOk tC_68 := tCt_of (K := (tPt_, tKs_68)) hT (tKok_68 hT) (n := 20000) rfl (by decide +kernel)
theorem tKok_69 (hT : aTabOk) : ∀ c ∈ tKs_69, tCtOk c := tCtOk_cons (tCok_68 hT) (tKok_68 hT)
set_option maxRecDepth 100000 in
/-- X11_offer, 155 steps -/
theorem tCok_69 (hT : aTabOk) : tCtOk tC_69 := tCt_of (K := (tPt_, tKs_69)) hT (tKok_69 hT) (n := 20000) rfl (by decide +kernel)
theorem tKok_70 (hT : aTabOk) : ∀ c ∈ tKs_70, tCtOk c := tCtOk_cons (tCok_69 hT) (tKok_69 hT)
set_option maxRecDepth 100000 in
/-- X11_night, 524 steps -/
theorem tCok_70 (hT : aTabOk) : tCtOk tC_70 := tCt_of (K := (tPt_, tKs_70)) hT (tKok_70 hT) (n := 20000) rfl (by decide +kernel)
theorem tKok_71 (hT : aTabOk) : ∀ c ∈ tKs_71, tCtOk c := tCtOk_cons (tCok_70 hT) (tKok_70 hT)
set_option maxRecDepth 100000 in
/-- X11_tell, 21 steps -/
theorem tCok_71 (hT : aTabOk) : tCtOk tC_71 := tCt_of (K := (tPt_, tKs_71)) hT (tKok_71 hT) (n := 20000) rfl (by decide +kernel)
theorem tKok_72 (hT : aTabOk) : ∀ c ∈ tKs_72, tCtOk c := tCtOk_cons (tCok_71 hT) (tKok_71 hT)
