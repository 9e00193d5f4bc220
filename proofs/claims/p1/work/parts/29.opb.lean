/-! GROUPS 5 to 7: fields, rows, calls, ends -/
section AOKB
variable {E : List Int} {cs : aC} {own nL y pc d : Nat} {al : List (Nat × aV)} {ast : List aV} {h : aHe} {lv : List (Nat × Value)} {st : List Value} {M : mHe} {e : aIn} {brs : List (aC × aRs)} {fr : mFr} {G : List (List Nat)} {ini : Bool} {sa : aSc} {sc : Option (Nat × (Nat → Int32))}
theorem aFit_ok {ty : FieldType} {a : aV} {v : Value} (hE : xE E cs) (hv : xV E a v) (hf : aFit cs ty a = true) : mFit ty v = true := by
  unfold aFit at hf
  split at hf
  · obtain ⟨x, rfl⟩ := xV_int hf hv
    rfl
  · rw [Bool.and_eq_true] at hf
    obtain ⟨h1, h2⟩ := hf
    obtain ⟨x, rfl⟩ := xV_int h1 hv
    have hb := aBd_I hE hv
    generalize aBd cs a = p at hb h2
    obtain ⟨l, u⟩ := p
    simp only at hb h2
    rw [Bool.and_eq_true, ile_iff, ile_iff] at h2
    unfold mFit
    simp only [Bool.or_eq_true, beq_iff_eq]
    rcases (show x.toInt = 0 ∨ x.toInt = 1 by omega) with hx | hx
    · left; exact Int32.toInt_inj.mp hx
    · right; exact Int32.toInt_inj.mp hx
  · have h1 := Nat.eq_of_beq_eq_true hf
    obtain ⟨t, r, b1, b2⟩ := a
    simp only at h1
    subst h1
    have hv : v = .ref r := hv
    subst hv
    rfl
  · have h1 := Nat.eq_of_beq_eq_true hf
    obtain ⟨t, r, b1, b2⟩ := a
    simp only at h1
    subst h1
    have hv : v = .ref r := hv
    subst hv
    rfl
  · cases hf
theorem aInB_ok {a : aV} {x : Int32} {n : Nat} (hE : xE E cs) (hv : xV E a (.int x)) (hf : aInB cs a n = true) : 0 ≤ x.toInt ∧ x.toInt < n := by
  have hb := aBd_I hE hv
  unfold aInB at hf
  generalize aBd cs a = p at hb hf
  obtain ⟨l, u⟩ := p
  simp only at hb hf
  rw [Bool.and_eq_true, ile_iff, ilt_iff] at hf
  have : Int.ofNat n = (n : Int) := rfl
  omega
theorem vp_ok {x : Int32} {n : Nat} (h : 0 ≤ x.toInt ∧ x.toInt < n) : ¬ (x < 0 ∨ n ≤ x.toNatClampNeg) := by
  intro z
  rcases z with z | z
  · have := Int32.lt_iff_toInt_lt.mp z
    rw [Int32.toInt_zero] at this
    omega
  · have : x.toNatClampNeg = x.toInt.toNat := rfl
    omega
theorem aGetA_hull {E : List Int} {cs : aC} (hE : xE E cs) {d : aV} {v : Value} : ∀ (ov : List (Nat × aV)) (m : aV), aIsI m = true → (∀ q ∈ ov, aIsI q.2 = true) → (xV E m v ∨ ∃ q ∈ ov, xV E q.2 v) → xV E (ov.foldl (fun m q => aHull cs m q.2) m) v := by
  have hull : ∀ (a b : aV), aIsI a = true → aIsI b = true → (xV E a v ∨ xV E b v) → xV E (aHull cs a b) v ∧ aIsI (aHull cs a b) = true := by
    intro a b ha hb h
    unfold aHull
    cases hs : aSame a b
    · simp only [cond_false]
      refine ⟨?_, rfl⟩
      rcases h with h | h
      · obtain ⟨x, rfl⟩ := xV_int ha h
        have h1 := aBd_I hE h
        generalize aBd cs a = p at h1 ⊢
        generalize aBd cs b = r
        obtain ⟨l1, u1⟩ := p
        obtain ⟨l2, u2⟩ := r
        simp only at h1 ⊢
        have := imin_le l1 l2
        have := imax_ge u1 u2
        exact xV_I2 E (by omega) (by omega) 0
      · obtain ⟨x, rfl⟩ := xV_int hb h
        have h1 := aBd_I hE h
        generalize aBd cs b = p at h1 ⊢
        generalize aBd cs a = r
        obtain ⟨l1, u1⟩ := p
        obtain ⟨l2, u2⟩ := r
        simp only at h1 ⊢
        have := imin_le l2 l1
        have := imax_ge u2 u1
        exact xV_I2 E (by omega) (by omega) 0
    · simp only [cond_true]
      refine ⟨?_, ha⟩
      unfold aSame at hs
      rw [Bool.and_eq_true, Bool.and_eq_true, Bool.and_eq_true, ieq_iff, ieq_iff] at hs
      have e1 := Nat.eq_of_beq_eq_true hs.1.1.1
      have e2 := Nat.eq_of_beq_eq_true hs.1.1.2
      have : a = b := by
        obtain ⟨a1, a2, a3, a4⟩ := a
        obtain ⟨b1, b2, b3, b4⟩ := b
        simp only at e1 e2 hs
        rw [e1, e2, hs.1.2, hs.2]
      rw [this] at h ⊢
      rcases h with h | h <;> exact h
  intro ov
  induction ov with
  | nil =>
    intro m _ _ h
    rcases h with h | ⟨q, hq, -⟩
    · exact h
    · cases hq
  | cons q ov ih =>
    intro m hm hall h
    rw [List.foldl_cons]
    have hq := hall q List.mem_cons_self
    by_cases hl : xV E m v ∨ xV E q.2 v
    · have := hull m q.2 hm hq hl
      exact ih _ this.2 (fun q' h' => hall q' (List.mem_cons_of_mem _ h')) (Or.inl this.1)
    · have h3 : aIsI (aHull cs m q.2) = true := by
        unfold aHull
        cases aSame m q.2
        · rfl
        · exact hm
      refine ih _ h3 (fun q' h' => hall q' (List.mem_cons_of_mem _ h')) (Or.inr ?_)
      rcases h with h | ⟨q', hq', h4⟩
      · exact absurd (Or.inl h) hl
      · rcases List.mem_cons.mp hq' with rfl | hq'
        · exact absurd (Or.inr h4) hl
        · exact ⟨q', hq', h4⟩
theorem aFound_cons (a : Nat) (w : aV) (l : List (Nat × aV)) (j : Nat) : aFound ((a, w) :: l) j = bif Nat.beq a j then some w else aFound l j := rfl
theorem aFound_mem {ov : List (Nat × aV)} {k : Nat} {v : aV} : aFound ov k = some v → (k, v) ∈ ov := by
  induction ov with
  | nil => intro h; cases h
  | cons q ov ih =>
    intro h
    obtain ⟨j, w⟩ := q
    unfold aFound at h
    cases hb : Nat.beq j k
    · rw [hb, cond_false] at h
      exact List.mem_cons_of_mem _ (ih h)
    · rw [hb, cond_true] at h
      cases h
      rw [Nat.eq_of_beq_eq_true hb]
      exact List.mem_cons_self
theorem aFound_filter {ov : List (Nat × aV)} {k j : Nat} : aFound (ov.filter (fun q => !(Nat.beq q.1 k))) j = if j = k then none else aFound ov j := by
  induction ov with
  | nil => simp [aFound]
  | cons q ov ih =>
    obtain ⟨a, w⟩ := q
    rw [List.filter_cons]
    cases hb : Nat.beq a k
    · simp only [Bool.not_false, if_true]
      unfold aFound
      cases hc : Nat.beq a j
      · simp only [cond_false]; exact ih
      · have h1 := Nat.eq_of_beq_eq_true hc
        subst h1
        have : ¬ a = k := fun z => by rw [z, Nat.beq_refl] at hb; cases hb
        rw [if_neg this]
        rfl
    · have h1 := Nat.eq_of_beq_eq_true hb
      subst h1
      simp only [Bool.not_true, Bool.false_eq_true, if_false]
      rw [ih]
      by_cases hj : j = a
      · rw [if_pos hj, if_pos hj]
      · rw [if_neg hj, if_neg hj]
        rw [aFound_cons]
        have : Nat.beq a j = false := by
          cases hz : Nat.beq a j
          · rfl
          · exact absurd (Nat.eq_of_beq_eq_true hz).symm hj
        rw [this]; rfl
theorem aSame_eq {a b : aV} (hs : aSame a b = true) : a = b := by
  unfold aSame at hs
  rw [Bool.and_eq_true, Bool.and_eq_true, Bool.and_eq_true, ieq_iff, ieq_iff] at hs
  have e1 := Nat.eq_of_beq_eq_true hs.1.1.1
  have e2 := Nat.eq_of_beq_eq_true hs.1.1.2
  obtain ⟨a1, a2, a3, a4⟩ := a
  obtain ⟨b1, b2, b3, b4⟩ := b
  simp only at e1 e2 hs
  rw [e1, e2, hs.1.2, hs.2]
theorem aGetA_set {a : Nat × aV × List (Nat × aV)} {k j : Nat} {v : aV} : aGetA (aSetA a k v) j = if j = k then v else aGetA a j := by
  obtain ⟨n, d, ov⟩ := a
  unfold aSetA
  simp only
  cases hs : aSame d v
  · simp only [cond_false]
    unfold aGetA
    simp only
    rw [aFound_cons]
    by_cases hj : j = k
    · subst hj
      rw [Nat.beq_refl]
      simp
    · have : Nat.beq k j = false := by
        cases hz : Nat.beq k j
        · rfl
        · exact absurd (Nat.eq_of_beq_eq_true hz).symm hj
      rw [this, cond_false, aFound_filter, if_neg hj, if_neg hj]
  · have hd := aSame_eq hs
    subst hd
    simp only [cond_true]
    unfold aGetA
    simp only
    rw [aFound_filter]
    by_cases hj : j = k
    · rw [if_pos hj, if_pos hj]
    · rw [if_neg hj, if_neg hj]
theorem aSetA_1 (a : Nat × aV × List (Nat × aV)) (k : Nat) (v : aV) : (aSetA a k v).1 = a.1 := by
  obtain ⟨n, d, ov⟩ := a
  unfold aSetA
  simp only
  cases aSame d v <;> rfl
theorem xA_set {a : Nat × aV × List (Nat × aV)} {n k : Nat} {f : Nat → Int32} {v : aV} {x : Int32} (hA : xA E a n f) (hv : xV E v (.int x)) : xA E (aSetA a k v) n (upd f k x) := by
  refine ⟨by rw [aSetA_1]; exact hA.1, fun j hj => ?_⟩
  rw [aGetA_set]
  unfold upd
  by_cases hjk : j = k
  · rw [if_pos hjk, if_pos hjk]; exact hv
  · rw [if_neg hjk, if_neg hjk]; exact hA.2 j hj
end AOKB
