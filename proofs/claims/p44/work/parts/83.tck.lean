/-! CONTRACTS, by runs in the kernel -/
set_option maxRecDepth 100000 in
/-- X12_line, 1299 steps -/
theorem tCok_116 (hT : aTabOk) (hK : ∀ c ∈ tKs_116, tCtOk c) : tCtOk tC_116 := tCt_of (K := (tPt_, tKs_116)) hT hK (n := 20000) rfl (by decide +kernel)
set_option maxRecDepth 100000 in
/-- X12_feed, 102 steps -/
theorem tCok_117 (hT : aTabOk) (hK : ∀ c ∈ tKs_117, tCtOk c) : tCtOk tC_117 := tCt_of (K := (tPt_, tKs_117)) hT hK (n := 20000) rfl (by decide +kernel)
set_option maxRecDepth 100000 in
/-- X12_trim, 34 steps -/
theorem tCok_118 (hT : aTabOk) (hK : ∀ c ∈ tKs_118, tCtOk c) : tCtOk tC_118 := tCt_of (K := (tPt_, tKs_118)) hT hK (n := 20000) rfl (by decide +kernel)
/-! tC_119: X12_text, by hand -/
set_option maxRecDepth 100000 in
/-- X12_of, 82 steps -/
theorem tCok_120 (hT : aTabOk) (hK : ∀ c ∈ tKs_120, tCtOk c) : tCtOk tC_120 := tCt_of (K := (tPt_, tKs_120)) hT hK (n := 20000) rfl (by decide +kernel)
set_option maxRecDepth 100000 in
/-- X12_why, 42 steps -/
theorem tCok_121 (hT : aTabOk) (hK : ∀ c ∈ tKs_121, tCtOk c) : tCtOk tC_121 := tCt_of (K := (tPt_, tKs_121)) hT hK (n := 20000) rfl (by decide +kernel)
set_option maxRecDepth 100000 in
/-- X12_income, 104 steps -/
theorem tCok_122 (hT : aTabOk) (hK : ∀ c ∈ tKs_122, tCtOk c) : tCtOk tC_122 := tCt_of (K := (tPt_, tKs_122)) hT hK (n := 20000) rfl (by decide +kernel)
set_option maxRecDepth 100000 in
/-- X12_balance, 470 steps -/
theorem tCok_123 (hT : aTabOk) (hK : ∀ c ∈ tKs_123, tCtOk c) : tCtOk tC_123 := tCt_of (K := (tPt_, tKs_123)) hT hK (n := 20000) rfl (by decide +kernel)
/-! tC_124: X12_first, by hand -/
set_option maxRecDepth 100000 in
/-- X12_book, 141 steps -/
theorem tCok_125 (hT : aTabOk) (hK : ∀ c ∈ tKs_125, tCtOk c) : tCtOk tC_125 := tCt_of (K := (tPt_, tKs_125)) hT hK (n := 20000) rfl (by decide +kernel)
set_option maxRecDepth 100000 in
/-- X12_note, 188 steps -/
theorem tCok_126 (hT : aTabOk) (hK : ∀ c ∈ tKs_126, tCtOk c) : tCtOk tC_126 := tCt_of (K := (tPt_, tKs_126)) hT hK (n := 20000) rfl (by decide +kernel)
set_option maxRecDepth 100000 in
/-- X12_looks, 139 steps -/
theorem tCok_127 (hT : aTabOk) (hK : ∀ c ∈ tKs_127, tCtOk c) : tCtOk tC_127 := tCt_of (K := (tPt_, tKs_127)) hT hK (n := 20000) rfl (by decide +kernel)
/-! tC_128: X12_copy, by hand -/
set_option maxRecDepth 100000 in
/-- X12_span, 1433 steps -/
theorem tCok_129 (hT : aTabOk) (hK : ∀ c ∈ tKs_129, tCtOk c) : tCtOk tC_129 := tCt_of (K := (tPt_, tKs_129)) hT hK (n := 20000) rfl (by decide +kernel)
set_option maxRecDepth 100000 in
/-- X12_wish, 79 steps -/
theorem tCok_130 (hT : aTabOk) (hK : ∀ c ∈ tKs_130, tCtOk c) : tCtOk tC_130 := tCt_of (K := (tPt_, tKs_130)) hT hK (n := 20000) rfl (by decide +kernel)
set_option maxRecDepth 100000 in
/-- X12_carry, 735 steps -/
theorem tCok_131 (hT : aTabOk) (hK : ∀ c ∈ tKs_131, tCtOk c) : tCtOk tC_131 := tCt_of (K := (tPt_, tKs_131)) hT hK (n := 20000) rfl (by decide +kernel)
set_option maxRecDepth 100000 in
/-- X12_interpreter, 44 steps -/
theorem tCok_132 (hT : aTabOk) (hK : ∀ c ∈ tKs_132, tCtOk c) : tCtOk tC_132 := tCt_of (K := (tPt_, tKs_132)) hT hK (n := 20000) rfl (by decide +kernel)
set_option maxRecDepth 100000 in
/-- X12_speaks, 202 steps -/
theorem tCok_133 (hT : aTabOk) (hK : ∀ c ∈ tKs_133, tCtOk c) : tCtOk tC_133 := tCt_of (K := (tPt_, tKs_133)) hT hK (n := 20000) rfl (by decide +kernel)
set_option maxRecDepth 100000 in
/-- X12_speech, 517 steps -/
theorem tCok_134 (hT : aTabOk) (hK : ∀ c ∈ tKs_134, tCtOk c) : tCtOk tC_134 := tCt_of (K := (tPt_, tKs_134)) hT hK (n := 20000) rfl (by decide +kernel)
set_option maxRecDepth 100000 in
/-- X12_heard, 1232 steps -/
theorem tCok_135 (hT : aTabOk) (hK : ∀ c ∈ tKs_135, tCtOk c) : tCtOk tC_135 := tCt_of (K := (tPt_, tKs_135)) hT hK (n := 20000) rfl (by decide +kernel)
/-! tC_136: X12_shift, by hand -/
set_option maxRecDepth 100000 in
/-- X12_offer, 166 steps -/
theorem tCok_137 (hT : aTabOk) (hK : ∀ c ∈ tKs_137, tCtOk c) : tCtOk tC_137 := tCt_of (K := (tPt_, tKs_137)) hT hK (n := 20000) rfl (by decide +kernel)
set_option maxRecDepth 100000 in
/-- X12_night, 195 steps -/
theorem tCok_138 (hT : aTabOk) (hK : ∀ c ∈ tKs_138, tCtOk c) : tCtOk tC_138 := tCt_of (K := (tPt_, tKs_138)) hT hK (n := 20000) rfl (by decide +kernel)
set_option maxRecDepth 100000 in
/-- X12_tell, 21 steps -/
theorem tCok_139 (hT : aTabOk) (hK : ∀ c ∈ tKs_139, tCtOk c) : tCtOk tC_139 := tCt_of (K := (tPt_, tKs_139)) hT hK (n := 20000) rfl (by decide +kernel)
set_option maxRecDepth 100000 in
/-- X12_check, 174 steps -/
theorem tCok_140 (hT : aTabOk) (hK : ∀ c ∈ tKs_140, tCtOk c) : tCtOk tC_140 := tCt_of (K := (tPt_, tKs_140)) hT hK (n := 20000) rfl (by decide +kernel)
set_option maxRecDepth 100000 in
/-- X12_keep, 14 steps -/
theorem tCok_141 (hT : aTabOk) (hK : ∀ c ∈ tKs_141, tCtOk c) : tCtOk tC_141 := tCt_of (K := (tPt_, tKs_141)) hT hK (n := 20000) rfl (by decide +kernel)
set_option maxRecDepth 100000 in
/-- X12_back, 16 steps -/
theorem tCok_142 (hT : aTabOk) (hK : ∀ c ∈ tKs_142, tCtOk c) : tCtOk tC_142 := tCt_of (K := (tPt_, tKs_142)) hT hK (n := 20000) rfl (by decide +kernel)
set_option maxRecDepth 100000 in
/-- X12_count, 373 steps -/
theorem tCok_143 (hT : aTabOk) (hK : ∀ c ∈ tKs_143, tCtOk c) : tCtOk tC_143 := tCt_of (K := (tPt_, tKs_143)) hT hK (n := 20000) rfl (by decide +kernel)
