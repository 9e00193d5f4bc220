/-! CONTRACTS, by runs in the kernel -/
set_option maxRecDepth 100000 in
/-- X12_line, 1299 steps -/
theorem tCok_116 (hT : aTabOk) : tCtOk tC_116 := tCt_of (K := (tPt_, tKs_116)) hT (tKok_116 hT) (n := 20000) rfl (by decide +kernel)
theorem tKok_117 (hT : aTabOk) : ∀ c ∈ tKs_117, tCtOk c := tCtOk_cons (tCok_116 hT) (tKok_116 hT)
set_option maxRecDepth 100000 in
/-- X12_feed, 102 steps -/
theorem tCok_117 (hT : aTabOk) : tCtOk tC_117 := tCt_of (K := (tPt_, tKs_117)) hT (tKok_117 hT) (n := 20000) rfl (by decide +kernel)
theorem tKok_118 (hT : aTabOk) : ∀ c ∈ tKs_118, tCtOk c := tCtOk_cons (tCok_117 hT) (tKok_117 hT)
set_option maxRecDepth 100000 in
/-- X12_trim, 34 steps -/
theorem tCok_118 (hT : aTabOk) : tCtOk tC_118 := tCt_of (K := (tPt_, tKs_118)) hT (tKok_118 hT) (n := 20000) rfl (by decide +kernel)
theorem tKok_119 (hT : aTabOk) : ∀ c ∈ tKs_119, tCtOk c := tCtOk_cons (tCok_118 hT) (tKok_118 hT)
theorem tCok_119 (hT : aTabOk) : tCtOk tC_119 := sorry -- X12_text
theorem tKok_120 (hT : aTabOk) : ∀ c ∈ tKs_120, tCtOk c := tCtOk_cons (tCok_119 hT) (tKok_119 hT)
set_option maxRecDepth 100000 in
/-- X12_of, 82 steps -/
theorem tCok_120 (hT : aTabOk) : tCtOk tC_120 := tCt_of (K := (tPt_, tKs_120)) hT (tKok_120 hT) (n := 20000) rfl (by decide +kernel)
theorem tKok_121 (hT : aTabOk) : ∀ c ∈ tKs_121, tCtOk c := tCtOk_cons (tCok_120 hT) (tKok_120 hT)
set_option maxRecDepth 100000 in
/-- X12_why, 42 steps -/
theorem tCok_121 (hT : aTabOk) : tCtOk tC_121 := tCt_of (K := (tPt_, tKs_121)) hT (tKok_121 hT) (n := 20000) rfl (by decide +kernel)
theorem tKok_122 (hT : aTabOk) : ∀ c ∈ tKs_122, tCtOk c := tCtOk_cons (tCok_121 hT) (tKok_121 hT)
set_option maxRecDepth 100000 in
/-- X12_income, 104 steps -/
theorem tCok_122 (hT : aTabOk) : tCtOk tC_122 := tCt_of (K := (tPt_, tKs_122)) hT (tKok_122 hT) (n := 20000) rfl (by decide +kernel)
theorem tKok_123 (hT : aTabOk) : ∀ c ∈ tKs_123, tCtOk c := tCtOk_cons (tCok_122 hT) (tKok_122 hT)
set_option maxRecDepth 100000 in
/-- X12_balance, 470 steps -/
theorem tCok_123 (hT : aTabOk) : tCtOk tC_123 := tCt_of (K := (tPt_, tKs_123)) hT (tKok_123 hT) (n := 20000) rfl (by decide +kernel)
theorem tKok_124 (hT : aTabOk) : ∀ c ∈ tKs_124, tCtOk c := tCtOk_cons (tCok_123 hT) (tKok_123 hT)
theorem tCok_124 (hT : aTabOk) : tCtOk tC_124 := sorry -- X12_first
theorem tKok_125 (hT : aTabOk) : ∀ c ∈ tKs_125, tCtOk c := tCtOk_cons (tCok_124 hT) (tKok_124 hT)
set_option maxRecDepth 100000 in
/-- X12_book, 141 steps -/
theorem tCok_125 (hT : aTabOk) : tCtOk tC_125 := tCt_of (K := (tPt_, tKs_125)) hT (tKok_125 hT) (n := 20000) rfl (by decide +kernel)
theorem tKok_126 (hT : aTabOk) : ∀ c ∈ tKs_126, tCtOk c := tCtOk_cons (tCok_125 hT) (tKok_125 hT)
set_option maxRecDepth 100000 in
/-- X12_note, 188 steps -/
theorem tCok_126 (hT : aTabOk) : tCtOk tC_126 := tCt_of (K := (tPt_, tKs_126)) hT (tKok_126 hT) (n := 20000) rfl (by decide +kernel)
theorem tKok_127 (hT : aTabOk) : ∀ c ∈ tKs_127, tCtOk c := tCtOk_cons (tCok_126 hT) (tKok_126 hT)
set_option maxRecDepth 100000 in
/-- X12_looks, 139 steps -/
theorem tCok_127 (hT : aTabOk) : tCtOk tC_127 := tCt_of (K := (tPt_, tKs_127)) hT (tKok_127 hT) (n := 20000) rfl (by decide +kernel)
theorem tKok_128 (hT : aTabOk) : ∀ c ∈ tKs_128, tCtOk c := tCtOk_cons (tCok_127 hT) (tKok_127 hT)
theorem tCok_128 (hT : aTabOk) : tCtOk tC_128 := sorry -- X12_copy
theorem tKok_129 (hT : aTabOk) : ∀ c ∈ tKs_129, tCtOk c := tCtOk_cons (tCok_128 hT) (tKok_128 hT)
set_option maxRecDepth 100000 in
/-- X12_span, 1433 steps -/
theorem tCok_129 (hT : aTabOk) : tCtOk tC_129 := tCt_of (K := (tPt_, tKs_129)) hT (tKok_129 hT) (n := 20000) rfl (by decide +kernel)
theorem tKok_130 (hT : aTabOk) : ∀ c ∈ tKs_130, tCtOk c := tCtOk_cons (tCok_129 hT) (tKok_129 hT)
set_option maxRecDepth 100000 in
/-- X12_wish, 79 steps -/
theorem tCok_130 (hT : aTabOk) : tCtOk tC_130 := tCt_of (K := (tPt_, tKs_130)) hT (tKok_130 hT) (n := 20000) rfl (by decide +kernel)
theorem tKok_131 (hT : aTabOk) : ∀ c ∈ tKs_131, tCtOk c := tCtOk_cons (tCok_130 hT) (tKok_130 hT)
set_option maxRecDepth 100000 in
/-- X12_carry, 735 steps -/
theorem tCok_131 (hT : aTabOk) : tCtOk tC_131 := tCt_of (K := (tPt_, tKs_131)) hT (tKok_131 hT) (n := 20000) rfl (by decide +kernel)
theorem tKok_132 (hT : aTabOk) : ∀ c ∈ tKs_132, tCtOk c := tCtOk_cons (tCok_131 hT) (tKok_131 hT)
set_option maxRecDepth 100000 in
/-- X12_interpreter, 44 steps -/
theorem tCok_132 (hT : aTabOk) : tCtOk tC_132 := tCt_of (K := (tPt_, tKs_132)) hT (tKok_132 hT) (n := 20000) rfl (by decide +kernel)
theorem tKok_133 (hT : aTabOk) : ∀ c ∈ tKs_133, tCtOk c := tCtOk_cons (tCok_132 hT) (tKok_132 hT)
set_option maxRecDepth 100000 in
/-- X12_speaks, 202 steps -/
theorem tCok_133 (hT : aTabOk) : tCtOk tC_133 := tCt_of (K := (tPt_, tKs_133)) hT (tKok_133 hT) (n := 20000) rfl (by decide +kernel)
theorem tKok_134 (hT : aTabOk) : ∀ c ∈ tKs_134, tCtOk c := tCtOk_cons (tCok_133 hT) (tKok_133 hT)
set_option maxRecDepth 100000 in
/-- X12_speech, 517 steps -/
theorem tCok_134 (hT : aTabOk) : tCtOk tC_134 := tCt_of (K := (tPt_, tKs_134)) hT (tKok_134 hT) (n := 20000) rfl (by decide +kernel)
theorem tKok_135 (hT : aTabOk) : ∀ c ∈ tKs_135, tCtOk c := tCtOk_cons (tCok_134 hT) (tKok_134 hT)
set_option maxRecDepth 100000 in
/-- X12_heard, 1232 steps -/
theorem tCok_135 (hT : aTabOk) : tCtOk tC_135 := tCt_of (K := (tPt_, tKs_135)) hT (tKok_135 hT) (n := 20000) rfl (by decide +kernel)
theorem tKok_136 (hT : aTabOk) : ∀ c ∈ tKs_136, tCtOk c := tCtOk_cons (tCok_135 hT) (tKok_135 hT)
theorem tCok_136 (hT : aTabOk) : tCtOk tC_136 := sorry -- X12_shift
theorem tKok_137 (hT : aTabOk) : ∀ c ∈ tKs_137, tCtOk c := tCtOk_cons (tCok_136 hT) (tKok_136 hT)
set_option maxRecDepth 100000 in
/-- X12_offer, 166 steps -/
theorem tCok_137 (hT : aTabOk) : tCtOk tC_137 := tCt_of (K := (tPt_, tKs_137)) hT (tKok_137 hT) (n := 20000) rfl (by decide +kernel)
theorem tKok_138 (hT : aTabOk) : ∀ c ∈ tKs_138, tCtOk c := tCtOk_cons (tCok_137 hT) (tKok_137 hT)
set_option maxRecDepth 100000 in
/-- X12_night, 195 steps -/
theorem tCok_138 (hT : aTabOk) : tCtOk tC_138 := tCt_of (K := (tPt_, tKs_138)) hT (tKok_138 hT) (n := 20000) rfl (by decide +kernel)
theorem tKok_139 (hT : aTabOk) : ∀ c ∈ tKs_139, tCtOk c := tCtOk_cons (tCok_138 hT) (tKok_138 hT)
set_option maxRecDepth 100000 in
/-- X12_tell, 21 steps -/
theorem tCok_139 (hT : aTabOk) : tCtOk tC_139 := tCt_of (K := (tPt_, tKs_139)) hT (tKok_139 hT) (n := 20000) rfl (by decide +kernel)
theorem tKok_140 (hT : aTabOk) : ∀ c ∈ tKs_140, tCtOk c := tCtOk_cons (tCok_139 hT) (tKok_139 hT)
set_option maxRecDepth 100000 in
/-- X12_check, 174 steps -/
theorem tCok_140 (hT : aTabOk) : tCtOk tC_140 := tCt_of (K := (tPt_, tKs_140)) hT (tKok_140 hT) (n := 20000) rfl (by decide +kernel)
theorem tKok_141 (hT : aTabOk) : ∀ c ∈ tKs_141, tCtOk c := tCtOk_cons (tCok_140 hT) (tKok_140 hT)
set_option maxRecDepth 100000 in
/-- X12_keep, 14 steps -/
theorem tCok_141 (hT : aTabOk) : tCtOk tC_141 := tCt_of (K := (tPt_, tKs_141)) hT (tKok_141 hT) (n := 20000) rfl (by decide +kernel)
theorem tKok_142 (hT : aTabOk) : ∀ c ∈ tKs_142, tCtOk c := tCtOk_cons (tCok_141 hT) (tKok_141 hT)
set_option maxRecDepth 100000 in
/-- X12_back, 16 steps -/
theorem tCok_142 (hT : aTabOk) : tCtOk tC_142 := tCt_of (K := (tPt_, tKs_142)) hT (tKok_142 hT) (n := 20000) rfl (by decide +kernel)
theorem tKok_143 (hT : aTabOk) : ∀ c ∈ tKs_143, tCtOk c := tCtOk_cons (tCok_142 hT) (tKok_142 hT)
set_option maxRecDepth 100000 in
/-- X12_count, 373 steps -/
theorem tCok_143 (hT : aTabOk) : tCtOk tC_143 := tCt_of (K := (tPt_, tKs_143)) hT (tKok_143 hT) (n := 20000) rfl (by decide +kernel)
theorem tKok_144 (hT : aTabOk) : ∀ c ∈ tKs_144, tCtOk c := tCtOk_cons (tCok_143 hT) (tKok_143 hT)
