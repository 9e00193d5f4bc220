/-! the text leaves an empty tape -/
theorem txPost_ok (hT : aTabOk) : txPost := fun M hM a => by
  obtain ⟨N, r, M', m1, x, rfl, m2, m3, m4⟩ := text_run hT hM a
  refine ⟨N, x, M', m1, m2, m3, fun xs => ?_⟩
  unfold yRd at m4 ⊢
  rw [if_neg (by decide)] at m4 ⊢
  exact m4
