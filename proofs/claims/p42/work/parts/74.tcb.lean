/-! CONTRACTS, by runs in the kernel -/
set_option maxRecDepth 100000 in
/-- X4_decide, 6725 steps -/
theorem tCok_10 (hT : aTabOk) : tCtOk tC_10 := tCt_of (K := (tPt_, tKs_10)) hT (tKok_10 hT) (n := 20000) rfl (by decide +kernel)
theorem tKok_11 (hT : aTabOk) : ∀ c ∈ tKs_11, tCtOk c := tCtOk_cons (tCok_10 hT) (tKok_10 hT)
set_option maxRecDepth 100000 in
/-- X8_behindWord, 400 steps -/
theorem tCok_11 (hT : aTabOk) : tCtOk tC_11 := tCt_of (K := (tPt_, tKs_11)) hT (tKok_11 hT) (n := 20000) rfl (by decide +kernel)
theorem tKok_12 (hT : aTabOk) : ∀ c ∈ tKs_12, tCtOk c := tCtOk_cons (tCok_11 hT) (tKok_11 hT)
set_option maxRecDepth 100000 in
/-- X8_behindBlanks, 40 steps -/
theorem tCok_12 (hT : aTabOk) : tCtOk tC_12 := tCt_of (K := (tPt_, tKs_12)) hT (tKok_12 hT) (n := 20000) rfl (by decide +kernel)
theorem tKok_13 (hT : aTabOk) : ∀ c ∈ tKs_13, tCtOk c := tCtOk_cons (tCok_12 hT) (tKok_12 hT)
set_option maxRecDepth 100000 in
/-- X5_layDownFrom, 646 steps -/
theorem tCok_13 (hT : aTabOk) : tCtOk tC_13 := tCt_of (K := (tPt_, tKs_13)) hT (tKok_13 hT) (n := 20000) rfl (by decide +kernel)
theorem tKok_14 (hT : aTabOk) : ∀ c ∈ tKs_14, tCtOk c := tCtOk_cons (tCok_13 hT) (tKok_13 hT)
set_option maxRecDepth 100000 in
/-- X5_endPart, 85 steps -/
theorem tCok_14 (hT : aTabOk) : tCtOk tC_14 := tCt_of (K := (tPt_, tKs_14)) hT (tKok_14 hT) (n := 20000) rfl (by decide +kernel)
theorem tKok_15 (hT : aTabOk) : ∀ c ∈ tKs_15, tCtOk c := tCtOk_cons (tCok_14 hT) (tKok_14 hT)
set_option maxRecDepth 100000 in
/-- X5_closeBracket, 151 steps -/
theorem tCok_15 (hT : aTabOk) : tCtOk tC_15 := tCt_of (K := (tPt_, tKs_15)) hT (tKok_15 hT) (n := 20000) rfl (by decide +kernel)
theorem tKok_16 (hT : aTabOk) : ∀ c ∈ tKs_16, tCtOk c := tCtOk_cons (tCok_15 hT) (tKok_15 hT)
set_option maxRecDepth 100000 in
/-- X8_isWord, 64 steps -/
theorem tCok_16 (hT : aTabOk) : tCtOk tC_16 := tCt_of (K := (tPt_, tKs_16)) hT (tKok_16 hT) (n := 20000) rfl (by decide +kernel)
theorem tKok_17 (hT : aTabOk) : ∀ c ∈ tKs_17, tCtOk c := tCtOk_cons (tCok_16 hT) (tKok_16 hT)
set_option maxRecDepth 100000 in
/-- X8_isWord, 64 steps -/
theorem tCok_17 (hT : aTabOk) : tCtOk tC_17 := tCt_of (K := (tPt_, tKs_17)) hT (tKok_17 hT) (n := 20000) rfl (by decide +kernel)
theorem tKok_18 (hT : aTabOk) : ∀ c ∈ tKs_18, tCtOk c := tCtOk_cons (tCok_17 hT) (tKok_17 hT)
set_option maxRecDepth 100000 in
/-- X8_isWord, 64 steps -/
theorem tCok_18 (hT : aTabOk) : tCtOk tC_18 := tCt_of (K := (tPt_, tKs_18)) hT (tKok_18 hT) (n := 20000) rfl (by decide +kernel)
theorem tKok_19 (hT : aTabOk) : ∀ c ∈ tKs_19, tCtOk c := tCtOk_cons (tCok_18 hT) (tKok_18 hT)
set_option maxRecDepth 100000 in
/-- X8_isWord, 64 steps -/
theorem tCok_19 (hT : aTabOk) : tCtOk tC_19 := tCt_of (K := (tPt_, tKs_19)) hT (tKok_19 hT) (n := 20000) rfl (by decide +kernel)
theorem tKok_20 (hT : aTabOk) : ∀ c ∈ tKs_20, tCtOk c := tCtOk_cons (tCok_19 hT) (tKok_19 hT)
set_option maxRecDepth 100000 in
/-- X5_keyOf, 35 steps -/
theorem tCok_20 (hT : aTabOk) : tCtOk tC_20 := tCt_of (K := (tPt_, tKs_20)) hT (tKok_20 hT) (n := 20000) rfl (by decide +kernel)
theorem tKok_21 (hT : aTabOk) : ∀ c ∈ tKs_21, tCtOk c := tCtOk_cons (tCok_20 hT) (tKok_20 hT)
set_option maxRecDepth 100000 in
/-- X5_numberAt, 59 steps -/
theorem tCok_21 (hT : aTabOk) : tCtOk tC_21 := tCt_of (K := (tPt_, tKs_21)) hT (tKok_21 hT) (n := 20000) rfl (by decide +kernel)
theorem tKok_22 (hT : aTabOk) : ∀ c ∈ tKs_22, tCtOk c := tCtOk_cons (tCok_21 hT) (tKok_21 hT)
set_option maxRecDepth 100000 in
/-- X5_nameAt, 300 steps -/
theorem tCok_22 (hT : aTabOk) : tCtOk tC_22 := tCt_of (K := (tPt_, tKs_22)) hT (tKok_22 hT) (n := 20000) rfl (by decide +kernel)
theorem tKok_23 (hT : aTabOk) : ∀ c ∈ tKs_23, tCtOk c := tCtOk_cons (tCok_22 hT) (tKok_22 hT)
