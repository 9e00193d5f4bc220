theorem mGo_M {y pc : Nat} {lv : List (Nat × Value)} {st : List Value} {M : mHe} {x : mFr × mHe} (h : mGo y pc lv st M = some (.inl x)) : x.2 = M := by
  simp only [mGo, Option.some.injEq, Sum.inl.injEq] at h
  rw [← h]
theorem mBr_M {y pc : Nat} {off : Int} {lv : List (Nat × Value)} {st : List Value} {M : mHe} {x : mFr × mHe} (h : mBr y pc off lv st M = some (.inl x)) : x.2 = M := by
  unfold mBr at h
  split at h
  · cases h
  · exact mGo_M h
theorem mOr_or {a b : mRes} {x : (mFr × mHe) ⊕ ((Nat × List Value × mFr) ⊕ Option Value)} (h : mOr a b = some x) : a = some x ∨ b = some x := by
  unfold mOr at h
  split at h
  · exact Or.inl h
  · exact Or.inr h
section MJM
variable {own d y pc n nL : Nat} {lv : List (Nat × Value)} {st : List Value} {M : mHe} {i : Instr} {x : mFr × mHe} {sc : Option (Nat × (Nat → Int32))} {ini : Bool} {z : (Nat × List Value × mFr) ⊕ Option Value} {rt : Option FieldType}
theorem mGo_no {pc' : Nat} {lv' : List (Nat × Value)} {st' : List Value} (h : mGo y pc' lv' st' M = some (.inr z)) : False := by
  simp [mGo] at h
theorem mBr_no {pc' : Nat} {off : Int} {lv' : List (Nat × Value)} {st' : List Value} (h : mBr y pc' off lv' st' M = some (.inr z)) : False := by
  unfold mBr at h
  split at h
  · cases h
  · exact mGo_no h
set_option maxHeartbeats 4000000 in
theorem mOp1_M (h : mOp1 own y pc n lv st M i = some (.inl x)) : x.2 = M := by
  unfold mOp1 at h
  split at h <;> (try split at h) <;> (try split at h) <;> first | exact mGo_M h | cases h
set_option maxHeartbeats 4000000 in
theorem mOp2_M (h : mOp2 nL y pc n lv st M i = some (.inl x)) : x.2 = M := by
  unfold mOp2 at h
  split at h <;> (try split at h) <;> (try split at h) <;> first | exact mGo_M h | cases h
set_option maxHeartbeats 4000000 in
theorem mOp3_M (h : mOp3 y pc n lv st M i = some (.inl x)) : x.2 = M := by
  unfold mOp3 at h
  split at h <;> (try split at h) <;> (try split at h) <;> first | exact mGo_M h | cases h
set_option maxHeartbeats 4000000 in
theorem mOp4_M (h : mOp4 y pc n lv st M i = some (.inl x)) : x.2 = M := by
  unfold mOp4 at h
  split at h <;> (try split at h) <;> (try split at h) <;> (try split at h) <;> (try split at h) <;> first | exact mGo_M h | exact mBr_M h | cases h
set_option maxHeartbeats 4000000 in
theorem mOp1_no (h : mOp1 own y pc n lv st M i = some (.inr z)) : False := by
  unfold mOp1 at h
  split at h <;> (try split at h) <;> (try split at h) <;> first | exact mGo_no h | cases h
set_option maxHeartbeats 4000000 in
theorem mOp2_no (h : mOp2 nL y pc n lv st M i = some (.inr z)) : False := by
  unfold mOp2 at h
  split at h <;> (try split at h) <;> (try split at h) <;> first | exact mGo_no h | cases h
set_option maxHeartbeats 4000000 in
theorem mOp3_no (h : mOp3 y pc n lv st M i = some (.inr z)) : False := by
  unfold mOp3 at h
  split at h <;> (try split at h) <;> (try split at h) <;> first | exact mGo_no h | cases h
set_option maxHeartbeats 4000000 in
theorem mOp4_no (h : mOp4 y pc n lv st M i = some (.inr z)) : False := by
  unfold mOp4 at h
  split at h <;> (try split at h) <;> (try split at h) <;> (try split at h) <;> (try split at h) <;> first | exact mGo_no h | exact mBr_no h | cases h
theorem mCall_no {pc' y' : Nat} {lv' : List (Nat × Value)} {st' vs : List Value} (h : mCall y pc' lv' st' M y' vs = some (.inl x)) : False := by
  unfold mCall at h
  split at h
  · cases h
  · split at h <;> cases h
set_option maxHeartbeats 4000000 in
theorem mOp6_M (h : mOp6 d own y pc n lv st M i = some (.inl x)) : x.2 = M := by
  unfold mOp6 at h
  split at h <;> (try split at h) <;> (try split at h) <;> (try split at h) <;> (try split at h) <;> (try split at h) <;> (try split at h) <;> (try split at h) <;> first | exact mGo_M h | exact (mCall_no h).elim | cases h
theorem mOp7_no (h : mOp7 rt n st i = some (.inl x)) : False := by
  unfold mOp7 at h
  split at h
  · split at h
    · split at h <;> cases h
    · cases h
    · cases h
    · cases h
  · cases h
set_option maxHeartbeats 4000000 in
theorem mOp5_len (h : mOp5 sc ini own y pc n lv st M i = some (.inl x)) : M.length ≤ x.2.length ∧ mSl M ≤ mSl x.2 := by
  have keep : ∀ N : mHe, x.2 = N → N = M → M.length ≤ x.2.length ∧ mSl M ≤ mSl x.2 := fun N h1 h2 => by rw [h1, h2]; exact ⟨Nat.le_refl _, Nat.le_refl _⟩
  unfold mOp5 at h
  split at h
  · split at h <;> (try split at h) <;> (try split at h) <;> (try split at h) <;> (try split at h) <;> (try split at h) <;> first | exact keep M (mGo_M h) rfl | cases h
  · split at h
    · split at h
      · split at h
        · split at h
          · next ci' fs qc ty hM hcl' hty =>
            split at h
            · rw [mGo_M h, List.length_set]
              exact ⟨Nat.le_refl _, Nat.le_of_eq (mSl_set M _ _ _ hM (by simp [mSz])).symm⟩
            · cases h
          · cases h
        · cases h
      · cases h
    · cases h
  · split at h <;> (try split at h) <;> (try split at h) <;> (try split at h) <;> (try split at h) <;> (try split at h) <;> first | exact keep M (mGo_M h) rfl | cases h
  · split at h
    · split at h
      · split at h
        · next L f hM =>
          split at h
          · cases h
          · rw [mGo_M h, List.length_set]
            exact ⟨Nat.le_refl _, Nat.le_of_eq (mSl_set M _ (.inl (L, f)) (.inl (L, upd f _ _)) hM rfl).symm⟩
        · cases h
      · cases h
    · cases h
  · split at h <;> (try split at h) <;> (try split at h) <;> (try split at h) <;> (try split at h) <;> (try split at h) <;> first | exact keep M (mGo_M h) rfl | cases h
  · split at h
    · split at h
      · rw [mGo_M h, mSl_app]
        simp only [List.length_append]
        exact ⟨Nat.le_add_right _ _, Nat.le_add_right _ _⟩
      · cases h
    · cases h
  · split at h
    · split at h
      · split at h
        · rw [mGo_M h, mSl_app]
          simp only [List.length_append]
          exact ⟨Nat.le_add_right _ _, Nat.le_add_right _ _⟩
        · cases h
      · cases h
    · cases h
  · cases h
set_option maxHeartbeats 4000000 in
theorem mOp5_no (h : mOp5 sc ini own y pc n lv st M i = some (.inr z)) : False := by
  unfold mOp5 at h
  split at h <;> (try split at h) <;> (try split at h) <;> (try split at h) <;> (try split at h) <;> (try split at h) <;> (try split at h) <;> (try split at h) <;> first | exact mGo_no h | cases h
theorem mOp_len {q : mMd} (h : mOp sc d q y pc n lv st M i = some (.inl x)) : M.length ≤ x.2.length ∧ mSl M ≤ mSl x.2 := by
  have keep : x.2 = M → M.length ≤ x.2.length ∧ mSl M ≤ mSl x.2 := fun h1 => by rw [h1]; exact ⟨Nat.le_refl _, Nat.le_refl _⟩
  unfold mOp at h
  rcases mOr_or h with h | h
  · exact keep (mOp1_M h)
  rcases mOr_or h with h | h
  · exact keep (mOp2_M h)
  rcases mOr_or h with h | h
  · exact keep (mOp3_M h)
  rcases mOr_or h with h | h
  · exact keep (mOp4_M h)
  rcases mOr_or h with h | h
  · exact mOp5_len h
  rcases mOr_or h with h | h
  · exact keep (mOp6_M h)
  · exact (mOp7_no h).elim
theorem mStep_len {fr : mFr} (h : mStep sc d fr M = some (.inl x)) : M.length ≤ x.2.length ∧ mSl M ≤ mSl x.2 := by
  unfold mStep at h
  split at h
  · cases h
  · split at h
    · cases h
    · exact mOp_len h
end MJM
theorem mRun_len : ∀ (n : Nat) (sc : Option (Nat × (Nat → Int32))) (d : Nat) (fr : mFr) (M M' : mHe) (r : Option Value), mRun sc n d fr M = some (r, M') → M.length ≤ M'.length ∧ mSl M ≤ mSl M' := by
  intro n
  induction n with
  | zero => intro sc d fr M M' r h; cases h
  | succ n ih =>
    intro sc d fr M M' r h
    unfold mRun at h
    split at h
    · cases h
    · next fr1 M1 hs =>
      have h1 := mStep_len hs
      have h2 := ih _ _ _ _ _ _ h
      dsimp only at h1
      omega
    · split at h
      · cases h
      · split at h
        · cases h
        · next r1 M1 hr =>
          have h1 := ih _ _ _ _ _ _ hr
          have h2 := ih _ _ _ _ _ _ h
          omega
    · simp only [Option.some.injEq, Prod.mk.injEq] at h
      rw [h.2]
      exact ⟨Nat.le_refl _, Nat.le_refl _⟩
