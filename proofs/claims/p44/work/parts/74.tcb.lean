/-! CONTRACTS, by runs in the kernel -/
set_option maxRecDepth 100000 in
/-- X4_decide, 6725 steps -/
theorem tCok_10 (hT : aTabOk) (hK : ∀ c ∈ tKs_10, tCtOk c) : tCtOk tC_10 := tCt_of (K := (tPt_, tKs_10)) hT hK (n := 20000) rfl (by decide +kernel)
set_option maxRecDepth 100000 in
/-- X8_behindWord, 400 steps -/
theorem tCok_11 (hT : aTabOk) (hK : ∀ c ∈ tKs_11, tCtOk c) : tCtOk tC_11 := tCt_of (K := (tPt_, tKs_11)) hT hK (n := 20000) rfl (by decide +kernel)
set_option maxRecDepth 100000 in
/-- X8_behindBlanks, 40 steps -/
theorem tCok_12 (hT : aTabOk) (hK : ∀ c ∈ tKs_12, tCtOk c) : tCtOk tC_12 := tCt_of (K := (tPt_, tKs_12)) hT hK (n := 20000) rfl (by decide +kernel)
set_option maxRecDepth 100000 in
/-- X5_layDownFrom, 646 steps -/
theorem tCok_13 (hT : aTabOk) (hK : ∀ c ∈ tKs_13, tCtOk c) : tCtOk tC_13 := tCt_of (K := (tPt_, tKs_13)) hT hK (n := 20000) rfl (by decide +kernel)
set_option maxRecDepth 100000 in
/-- X5_endPart, 85 steps -/
theorem tCok_14 (hT : aTabOk) (hK : ∀ c ∈ tKs_14, tCtOk c) : tCtOk tC_14 := tCt_of (K := (tPt_, tKs_14)) hT hK (n := 20000) rfl (by decide +kernel)
set_option maxRecDepth 100000 in
/-- X5_closeBracket, 151 steps -/
theorem tCok_15 (hT : aTabOk) (hK : ∀ c ∈ tKs_15, tCtOk c) : tCtOk tC_15 := tCt_of (K := (tPt_, tKs_15)) hT hK (n := 20000) rfl (by decide +kernel)
set_option maxRecDepth 100000 in
/-- X8_isWord, 64 steps -/
theorem tCok_16 (hT : aTabOk) (hK : ∀ c ∈ tKs_16, tCtOk c) : tCtOk tC_16 := tCt_of (K := (tPt_, tKs_16)) hT hK (n := 20000) rfl (by decide +kernel)
set_option maxRecDepth 100000 in
/-- X8_isWord, 64 steps -/
theorem tCok_17 (hT : aTabOk) (hK : ∀ c ∈ tKs_17, tCtOk c) : tCtOk tC_17 := tCt_of (K := (tPt_, tKs_17)) hT hK (n := 20000) rfl (by decide +kernel)
set_option maxRecDepth 100000 in
/-- X8_isWord, 64 steps -/
theorem tCok_18 (hT : aTabOk) (hK : ∀ c ∈ tKs_18, tCtOk c) : tCtOk tC_18 := tCt_of (K := (tPt_, tKs_18)) hT hK (n := 20000) rfl (by decide +kernel)
set_option maxRecDepth 100000 in
/-- X8_isWord, 64 steps -/
theorem tCok_19 (hT : aTabOk) (hK : ∀ c ∈ tKs_19, tCtOk c) : tCtOk tC_19 := tCt_of (K := (tPt_, tKs_19)) hT hK (n := 20000) rfl (by decide +kernel)
set_option maxRecDepth 100000 in
/-- X5_keyOf, 35 steps -/
theorem tCok_20 (hT : aTabOk) (hK : ∀ c ∈ tKs_20, tCtOk c) : tCtOk tC_20 := tCt_of (K := (tPt_, tKs_20)) hT hK (n := 20000) rfl (by decide +kernel)
set_option maxRecDepth 100000 in
/-- X5_numberAt, 59 steps -/
theorem tCok_21 (hT : aTabOk) (hK : ∀ c ∈ tKs_21, tCtOk c) : tCtOk tC_21 := tCt_of (K := (tPt_, tKs_21)) hT hK (n := 20000) rfl (by decide +kernel)
set_option maxRecDepth 100000 in
/-- X5_nameAt, 300 steps -/
theorem tCok_22 (hT : aTabOk) (hK : ∀ c ∈ tKs_22, tCtOk c) : tCtOk tC_22 := tCt_of (K := (tPt_, tKs_22)) hT hK (n := 20000) rfl (by decide +kernel)
