/-! CONTRACTS, by runs in the kernel -/
theorem tKok_0 (_ : aTabOk) : ∀ c ∈ tKs_0, tCtOk c := fun c hc => by cases hc
set_option maxRecDepth 100000 in
/-- X9_workOut, 1895 steps -/
theorem tCok_0 (hT : aTabOk) : tCtOk tC_0 := tCt_of (K := (tPt_, tKs_0)) hT (tKok_0 hT) (n := 20000) rfl (by decide +kernel)
theorem tKok_1 (hT : aTabOk) : ∀ c ∈ tKs_1, tCtOk c := tCtOk_cons (tCok_0 hT) (tKok_0 hT)
set_option maxRecDepth 100000 in
/-- X9_worthOf, 109 steps -/
theorem tCok_1 (hT : aTabOk) : tCtOk tC_1 := tCt_of (K := (tPt_, tKs_1)) hT (tKok_1 hT) (n := 20000) rfl (by decide +kernel)
theorem tKok_2 (hT : aTabOk) : ∀ c ∈ tKs_2, tCtOk c := tCtOk_cons (tCok_1 hT) (tKok_1 hT)
set_option maxRecDepth 100000 in
/-- X9_counting, 50 steps -/
theorem tCok_2 (hT : aTabOk) : tCtOk tC_2 := tCt_of (K := (tPt_, tKs_2)) hT (tKok_2 hT) (n := 20000) rfl (by decide +kernel)
theorem tKok_3 (hT : aTabOk) : ∀ c ∈ tKs_3, tCtOk c := tCtOk_cons (tCok_2 hT) (tKok_2 hT)
set_option maxRecDepth 100000 in
/-- X1_placeInRow, 65 steps -/
theorem tCok_3 (hT : aTabOk) : tCtOk tC_3 := tCt_of (K := (tPt_, tKs_3)) hT (tKok_3 hT) (n := 20000) rfl (by decide +kernel)
theorem tKok_4 (hT : aTabOk) : ∀ c ∈ tKs_4, tCtOk c := tCtOk_cons (tCok_3 hT) (tKok_3 hT)
set_option maxRecDepth 100000 in
/-- X1_worthInOrder, 995 steps -/
theorem tCok_4 (hT : aTabOk) : tCtOk tC_4 := tCt_of (K := (tPt_, tKs_4)) hT (tKok_4 hT) (n := 20000) rfl (by decide +kernel)
theorem tKok_5 (hT : aTabOk) : ∀ c ∈ tKs_5, tCtOk c := tCtOk_cons (tCok_4 hT) (tKok_4 hT)
set_option maxRecDepth 100000 in
/-- X1_layRow, 127 steps -/
theorem tCok_5 (hT : aTabOk) : tCtOk tC_5 := tCt_of (K := (tPt_, tKs_5)) hT (tKok_5 hT) (n := 20000) rfl (by decide +kernel)
theorem tKok_6 (hT : aTabOk) : ∀ c ∈ tKs_6, tCtOk c := tCtOk_cons (tCok_5 hT) (tKok_5 hT)
set_option maxRecDepth 100000 in
/-- X1_poll, 1001 steps -/
theorem tCok_6 (hT : aTabOk) : tCtOk tC_6 := tCt_of (K := (tPt_, tKs_6)) hT (tKok_6 hT) (n := 20000) rfl (by decide +kernel)
theorem tKok_7 (hT : aTabOk) : ∀ c ∈ tKs_7, tCtOk c := tCtOk_cons (tCok_6 hT) (tKok_6 hT)
set_option maxRecDepth 100000 in
/-- X1_countVoters, 824 steps -/
theorem tCok_7 (hT : aTabOk) : tCtOk tC_7 := tCt_of (K := (tPt_, tKs_7)) hT (tKok_7 hT) (n := 20000) rfl (by decide +kernel)
theorem tKok_8 (hT : aTabOk) : ∀ c ∈ tKs_8, tCtOk c := tCtOk_cons (tCok_7 hT) (tKok_7 hT)
set_option maxRecDepth 100000 in
/-- X1_polledPasses, 45 steps -/
theorem tCok_8 (hT : aTabOk) : tCtOk tC_8 := tCt_of (K := (tPt_, tKs_8)) hT (tKok_8 hT) (n := 20000) rfl (by decide +kernel)
theorem tKok_9 (hT : aTabOk) : ∀ c ∈ tKs_9, tCtOk c := tCtOk_cons (tCok_8 hT) (tKok_8 hT)
set_option maxRecDepth 100000 in
/-- X1_mayBePut, 44 steps -/
theorem tCok_9 (hT : aTabOk) : tCtOk tC_9 := tCt_of (K := (tPt_, tKs_9)) hT (tKok_9 hT) (n := 20000) rfl (by decide +kernel)
theorem tKok_10 (hT : aTabOk) : ∀ c ∈ tKs_10, tCtOk c := tCtOk_cons (tCok_9 hT) (tKok_9 hT)
