/-! THE LAW ANSWERS 1, on the small machine -/
theorem aSum_mono : ∀ (l : List aCe) (s : Nat), s ≤ aSum s l := by
  intro l
  induction l with
  | nil => intro s; exact Nat.le_refl _
  | cons c l ih => intro s; unfold aSum; have := ih (s + aSz c); omega
theorem aSz_shp {c : aCe} {m : mCe} (h : aShp c = mShp m) : aSz c = mSz m := by
  cases c with
  | inl a =>
    cases m with
    | inl p => obtain ⟨n, f⟩ := p; simp only [aShp, mShp, Prod.mk.injEq, and_true, true_and] at h; exact h
    | inr p => obtain ⟨n, f⟩ := p; simp [aShp, mShp] at h
  | inr a =>
    obtain ⟨ci, fs⟩ := a
    cases m with
    | inl p => obtain ⟨n, f⟩ := p; simp [aShp, mShp] at h
    | inr p => obtain ⟨n, f⟩ := p; simp only [aShp, mShp, Prod.mk.injEq, true_and] at h; exact h.2
theorem aSum_ge : ∀ (l : List aCe) (s : Nat) (M : mHe), M.length ≤ l.length → (∀ (k : Nat) (c : aCe), k < M.length → l[k]? = some c → ∃ m, M[k]? = some m ∧ aShp c = mShp m) → s + mSl M ≤ aSum s l := by
  intro l
  induction l with
  | nil =>
    intro s M hl _
    cases M with
    | nil => exact Nat.le_refl _
    | cons m M => simp at hl
  | cons c l ih =>
    intro s M hl hM
    cases M with
    | nil => exact aSum_mono _ _
    | cons m M =>
      obtain ⟨m', h1, h2⟩ := hM 0 c (by simp) rfl
      simp only [List.getElem?_cons_zero, Option.some.injEq] at h1
      subst h1
      unfold aSum
      have := ih (s + aSz c) M (by simpa using hl) (fun k c' hk hc => by
        obtain ⟨m', g1, g2⟩ := hM (k + 1) c' (by simpa using hk) (by simpa using hc)
        exact ⟨m', by simpa using g1, g2⟩)
      have e := aSz_shp h2
      simp only [mSl, List.map_cons, List.sum_cons] at this ⊢
      omega
theorem mSl_split (k : Nat) (M : mHe) : mSl M = mSl (M.take k) + mSl (M.drop k) := by
  unfold mSl
  rw [← List.sum_append, ← List.map_append, List.take_append_drop]
theorem aGr_ok : ∀ (gs : List (List aCe)) (n s : Nat) (M : mHe), aGr n s gs = true → M.length = n → (∀ (k : Nat) (c : aCe), hget (0, gs) k = some c → ∃ m, M[k]? = some m ∧ aShp c = mShp m) → s + mSl M ≤ 7302250 := by
  intro gs
  induction gs with
  | nil =>
    intro n s M h hn _
    unfold aGr at h
    rw [Bool.and_eq_true, Nat.ble_eq] at h
    have h0 := Nat.eq_of_beq_eq_true h.1
    have : M = [] := List.eq_nil_of_length_eq_zero (by omega)
    subst this
    simp only [mSl, List.map_nil, List.sum_nil]
    omega
  | cons l ls ih =>
    intro n s M h hn hM
    have hl : ∀ (k : Nat) (c : aCe), k < 12 → l[k]? = some c → ∃ m, M[k]? = some m ∧ aShp c = mShp m := by
      intro k c hk hc
      refine hM k c ?_
      unfold hget
      simp only
      rw [Nat.div_eq_of_lt hk, Nat.mod_eq_of_lt hk]
      exact hc
    unfold aGr at h
    cases hb : Nat.ble 12 n
    · rw [hb, cond_false, Bool.and_eq_true, Nat.ble_eq, Nat.ble_eq] at h
      have hn12 : n < 12 := by
        by_cases hh : 12 ≤ n
        · rw [Nat.ble_eq.mpr hh] at hb; cases hb
        · omega
      have := aSum_ge l s M (by omega) (fun k c hk hc => hl k c (by omega) hc)
      omega
    · rw [hb, cond_true, Bool.and_eq_true] at h
      have hn12 := Nat.ble_eq.mp hb
      have h12 := Nat.eq_of_beq_eq_true h.1
      have hlt : (M.take 12).length = 12 := by rw [List.length_take]; omega
      have e1 := aSum_ge l s (M.take 12) (by omega) (fun k c hk hc => by
        obtain ⟨m, g1, g2⟩ := hl k c (by omega) hc
        exact ⟨m, by rw [List.getElem?_take_of_lt (by omega)]; exact g1, g2⟩)
      have e2 := ih (n - 12) (aSum s l) (M.drop 12) h.2 (by rw [List.length_drop]; omega) (fun k c hk => by
        obtain ⟨m, g1, g2⟩ := hM (k + 12) c (by
          unfold hget at hk ⊢
          simp only at hk ⊢
          rw [show (k + 12) / 12 = k / 12 + 1 by omega, show (k + 12) % 12 = k % 12 by omega]
          exact hk)
        exact ⟨m, by rw [List.getElem?_drop, Nat.add_comm]; exact g1, g2⟩)
      rw [mSl_split 12 M]
      omega
/-- what the law's run is to be -/
def mLawOk (L : Nat) (xs : Nat → Int32) : Prop := ∃ N M', mRun (some (L, xs)) N 100 (365, 0, [(0, .ref 0)], []) [] = some (some (.int 1), M') ∧ M'.length ≤ 600000 ∧ mSl M' ≤ 7302250
theorem aLaw_ok (hT : aTabOk) {sa : aSc} {cs : aC} {E : List Int} {L : Nat} {xs : Nat → Int32} (h : aLaw sa cs = true) (hE : xE E cs) (hsc : xSc E sa (some (L, xs))) : mLawOk L xs := by
  unfold aLaw aAll at h
  split at h
  · cases h
  · next lfs hr =>
    have hc := aRun_ok hT 40000 sa (some (L, xs)) 100 [] [] (365, 0, [(0, kR 0)], []) (0, []) cs lfs E [(0, .ref 0)] [] [] hr hE (by
      intro k v hk
      unfold alg at hk
      cases hb : Nat.beq 0 k
      · rw [hb, cond_false] at hk; cases hk
      · rw [hb, cond_true] at hk
        cases hk
        have := Nat.eq_of_beq_eq_true hb
        subst this
        exact ⟨_, rfl, rfl⟩) trivial ⟨rfl, fun k c hk => by unfold hget at hk; simp at hk⟩ hsc (fun L z => by cases z)
    rcases hc with ⟨lf, h1, X, N, r, M', h2, h3, h4, h5⟩ | ⟨L, z, -⟩
    · have h6 := List.all_eq_true.mp h lf h1
      simp only [Bool.and_eq_true, Nat.ble_eq] at h6
      obtain ⟨h7, h8, h9⟩ := h6
      split at h7
      · next v hv =>
        rw [hv, aSame_eq h7] at h4
        cases r with
        | none => exact h4.elim
        | some w =>
          obtain ⟨x, rfl, k1, k2⟩ := h4
          have hx : x = 1 := by
            have : x.toInt = (1 : Int32).toInt := by
              have : (1 : Int32).toInt = 1 := by decide
              omega
            exact Int32.toInt_inj.mp this
          subst hx
          refine ⟨N, M', h3, by rw [← h5.1]; exact h8, ?_⟩
          have := aGr_ok lf.2.1.2 lf.2.1.1 0 M' h9 h5.1.symm (fun k c hk => xH_shp h5 (by
            unfold hget at hk ⊢
            exact hk))
          omega
      · cases h7
    · cases z
def s6 (xs : Nat → Int32) : List Int := [(xs 0).toInt, (xs 1).toInt, (xs 2).toInt, (xs 3).toInt, (xs 4).toInt, (xs 5).toInt]
theorem s6_E {xs : Nat → Int32} {l1 u1 l2 u2 : Int} (h1 : l1 ≤ (xs 1).toInt) (h2 : (xs 1).toInt ≤ u1) (h3 : l2 ≤ (xs 2).toInt) (h4 : (xs 2).toInt ≤ u2) : xE (s6 xs) (aCb (l1, u1) (l2, u2)) := by
  have lo := fun k => i32_lo (xs k)
  have hi := fun k => i32_hi (xs k)
  refine ⟨rfl, fun i e he => ?_, fun i l u e hb he => ?_, fun t ht => by cases ht⟩
  · have hm := List.mem_of_getElem? he
    simp only [s6, List.mem_cons, List.not_mem_nil, or_false] at hm
    rcases hm with rfl | rfl | rfl | rfl | rfl | rfl <;> exact ⟨lo _, hi _⟩
  · have hil : i < 6 := (List.getElem?_eq_some_iff.mp he).1
    rcases (by omega : i = 0 ∨ i = 1 ∨ i = 2 ∨ i = 3 ∨ i = 4 ∨ i = 5) with rfl | rfl | rfl | rfl | rfl | rfl <;>
      (simp only [s6, aCb, List.getElem?_cons_succ, List.getElem?_cons_zero, Option.some.injEq, Prod.mk.injEq] at he hb
       obtain ⟨rfl, rfl⟩ := hb
       subst he)
    · exact ⟨lo 0, hi 0⟩
    · exact ⟨h1, h2⟩
    · exact ⟨h3, h4⟩
    · exact ⟨lo 3, hi 3⟩
    · exact ⟨lo 4, hi 4⟩
    · exact ⟨lo 5, hi 5⟩
theorem s6_S {xs : Nat → Int32} {op : Int} (h : (xs 0 &&& 63).toInt = op) : xSc (s6 xs) (aSc6 op) (some (6, xs)) := by
  intro n a e
  unfold aSc6 at e
  cases e
  refine ⟨xs, rfl, ⟨rfl, fun j hj => ?_⟩, by decide⟩
  rcases (by omega : j = 0 ∨ j = 1 ∨ j = 2 ∨ j = 3 ∨ j = 4 ∨ j = 5) with rfl | rfl | rfl | rfl | rfl | rfl
  · exact ⟨xs 0, rfl, h⟩
  · exact ⟨xs 1, _, rfl, rfl, by omega⟩
  · exact ⟨xs 2, _, rfl, rfl, by omega⟩
  · exact ⟨xs 3, _, rfl, rfl, by omega⟩
  · exact ⟨xs 4, _, rfl, rfl, by omega⟩
  · exact ⟨xs 5, _, rfl, rfl, by omega⟩
theorem sL_S {xs : Nat → Int32} {L : Nat} (h : L < 6) : xSc [] (aScL L) (some (L, xs)) := by
  intro n a e
  unfold aScL at e
  cases e
  exact ⟨xs, rfl, ⟨rfl, fun j _ => ⟨xs j, rfl, i32_lo _, i32_hi _⟩⟩, by omega⟩
theorem s0_E : xE [] ([], []) := ⟨rfl, fun i e he => by simp at he, fun i l u e _ he => by simp at he, fun t ht => by cases ht⟩
theorem s6_C {xs : Nat → Int32} : xE (s6 xs) aC6 := s6_E (i32_lo _) (i32_hi _) (i32_lo _) (i32_hi _)

theorem mLaw_42 (hT : aTabOk) (xs : Nat → Int32) (h : (xs 0 &&& 63).toInt = 42) : mLawOk 6 xs := by
  have a1 := i32_lo (xs 1)
  have a2 := i32_hi (xs 1)
  have a3 := i32_lo (xs 2)
  have a4 := i32_hi (xs 2)
  by_cases h0 : (xs 2).toInt ≤ 1
  · exact aLaw_ok hT aEv_42_0 (s6_E (by omega) (by omega) (by omega) (by omega)) (s6_S h)
  by_cases h1 : 2 ≤ (xs 2).toInt ∧ (xs 2).toInt ≤ 3
  · exact aLaw_ok hT aEv_42_1 (s6_E (by omega) (by omega) (by omega) (by omega)) (s6_S h)
  by_cases h2 : 4 ≤ (xs 2).toInt ∧ (xs 2).toInt ≤ 4
  · exact aLaw_ok hT aEv_42_2 (s6_E (by omega) (by omega) (by omega) (by omega)) (s6_S h)
  by_cases h3 : 5 ≤ (xs 2).toInt ∧ (xs 2).toInt ≤ 5
  · exact aLaw_ok hT aEv_42_3 (s6_E (by omega) (by omega) (by omega) (by omega)) (s6_S h)
  by_cases h4 : 6 ≤ (xs 2).toInt ∧ (xs 2).toInt ≤ 6
  · exact aLaw_ok hT aEv_42_4 (s6_E (by omega) (by omega) (by omega) (by omega)) (s6_S h)
  by_cases h5 : 7 ≤ (xs 2).toInt
  · exact aLaw_ok hT aEv_42_5 (s6_E (by omega) (by omega) (by omega) (by omega)) (s6_S h)
  omega
theorem mLaw_8 (hT : aTabOk) (xs : Nat → Int32) (h : (xs 0 &&& 63).toInt = 8) : mLawOk 6 xs := by
  have a1 := i32_lo (xs 1)
  have a2 := i32_hi (xs 1)
  have a3 := i32_lo (xs 2)
  have a4 := i32_hi (xs 2)
  by_cases h0 : (xs 1).toInt ≤ 0
  · exact aLaw_ok hT aEv_8_0 (s6_E (by omega) (by omega) (by omega) (by omega)) (s6_S h)
  by_cases h1 : 1 ≤ (xs 1).toInt ∧ (xs 1).toInt ≤ 1 ∧ (xs 2).toInt ≤ 19
  · exact aLaw_ok hT aEv_8_1 (s6_E (by omega) (by omega) (by omega) (by omega)) (s6_S h)
  by_cases h2 : 1 ≤ (xs 1).toInt ∧ (xs 1).toInt ≤ 1 ∧ 20 ≤ (xs 2).toInt ∧ (xs 2).toInt ≤ 39
  · exact aLaw_ok hT aEv_8_2 (s6_E (by omega) (by omega) (by omega) (by omega)) (s6_S h)
  by_cases h3 : 1 ≤ (xs 1).toInt ∧ (xs 1).toInt ≤ 1 ∧ 40 ≤ (xs 2).toInt ∧ (xs 2).toInt ≤ 59
  · exact aLaw_ok hT aEv_8_3 (s6_E (by omega) (by omega) (by omega) (by omega)) (s6_S h)
  by_cases h4 : 1 ≤ (xs 1).toInt ∧ (xs 1).toInt ≤ 1 ∧ 60 ≤ (xs 2).toInt
  · exact aLaw_ok hT aEv_8_4 (s6_E (by omega) (by omega) (by omega) (by omega)) (s6_S h)
  by_cases h5 : 2 ≤ (xs 1).toInt ∧ (xs 1).toInt ≤ 5
  · exact aLaw_ok hT aEv_8_5 (s6_E (by omega) (by omega) (by omega) (by omega)) (s6_S h)
  by_cases h6 : 6 ≤ (xs 1).toInt ∧ (xs 1).toInt ≤ 6 ∧ (xs 2).toInt ≤ 39
  · exact aLaw_ok hT aEv_8_6 (s6_E (by omega) (by omega) (by omega) (by omega)) (s6_S h)
  by_cases h7 : 6 ≤ (xs 1).toInt ∧ (xs 1).toInt ≤ 6 ∧ 40 ≤ (xs 2).toInt
  · exact aLaw_ok hT aEv_8_7 (s6_E (by omega) (by omega) (by omega) (by omega)) (s6_S h)
  by_cases h8 : 7 ≤ (xs 1).toInt
  · exact aLaw_ok hT aEv_8_8 (s6_E (by omega) (by omega) (by omega) (by omega)) (s6_S h)
  omega
theorem mLaw_all (hT : aTabOk) (L : Nat) (hL : L ≤ 6) (xs : Nat → Int32) : mLawOk L xs := by
  by_cases g0 : L = 0
  · subst g0; exact aLaw_ok hT aEv_L0 s0_E (sL_S (by omega))
  by_cases g1 : L = 1
  · subst g1; exact aLaw_ok hT aEv_L1 s0_E (sL_S (by omega))
  by_cases g2 : L = 2
  · subst g2; exact aLaw_ok hT aEv_L2 s0_E (sL_S (by omega))
  by_cases g3 : L = 3
  · subst g3; exact aLaw_ok hT aEv_L3 s0_E (sL_S (by omega))
  by_cases g4 : L = 4
  · subst g4; exact aLaw_ok hT aEv_L4 s0_E (sL_S (by omega))
  by_cases g5 : L = 5
  · subst g5; exact aLaw_ok hT aEv_L5 s0_E (sL_S (by omega))
  have hL6 : L = 6 := by omega
  subst hL6
  have h63 : (63 : Int32).toInt = 63 := by decide
  have hb := i32_and (x := xs 0) (y := 63) (by rw [h63]; omega)
  rw [h63] at hb
  by_cases h0 : (xs 0 &&& 63).toInt = 0
  · exact aLaw_ok hT aEv_0 s6_C (s6_S h0)
  by_cases h1 : (xs 0 &&& 63).toInt = 1
  · exact aLaw_ok hT aEv_1 s6_C (s6_S h1)
  by_cases h2 : (xs 0 &&& 63).toInt = 2
  · exact aLaw_ok hT aEv_2 s6_C (s6_S h2)
  by_cases h3 : (xs 0 &&& 63).toInt = 3
  · exact aLaw_ok hT aEv_3 s6_C (s6_S h3)
  by_cases h4 : (xs 0 &&& 63).toInt = 4
  · exact aLaw_ok hT aEv_4 s6_C (s6_S h4)
  by_cases h5 : (xs 0 &&& 63).toInt = 5
  · exact aLaw_ok hT aEv_5 s6_C (s6_S h5)
  by_cases h6 : (xs 0 &&& 63).toInt = 6
  · exact aLaw_ok hT aEv_6 s6_C (s6_S h6)
  by_cases h7 : (xs 0 &&& 63).toInt = 7
  · exact aLaw_ok hT aEv_7 s6_C (s6_S h7)
  by_cases h8 : (xs 0 &&& 63).toInt = 8
  · exact mLaw_8 hT xs h8
  by_cases h9 : (xs 0 &&& 63).toInt = 9
  · exact aLaw_ok hT aEv_9 s6_C (s6_S h9)
  by_cases h10 : (xs 0 &&& 63).toInt = 10
  · exact aLaw_ok hT aEv_10 s6_C (s6_S h10)
  by_cases h11 : (xs 0 &&& 63).toInt = 11
  · exact aLaw_ok hT aEv_11 s6_C (s6_S h11)
  by_cases h12 : (xs 0 &&& 63).toInt = 12
  · exact aLaw_ok hT aEv_12 s6_C (s6_S h12)
  by_cases h13 : (xs 0 &&& 63).toInt = 13
  · exact aLaw_ok hT aEv_13 s6_C (s6_S h13)
  by_cases h14 : (xs 0 &&& 63).toInt = 14
  · exact aLaw_ok hT aEv_14 s6_C (s6_S h14)
  by_cases h15 : (xs 0 &&& 63).toInt = 15
  · exact aLaw_ok hT aEv_15 s6_C (s6_S h15)
  by_cases h16 : (xs 0 &&& 63).toInt = 16
  · exact aLaw_ok hT aEv_16 s6_C (s6_S h16)
  by_cases h17 : (xs 0 &&& 63).toInt = 17
  · exact aLaw_ok hT aEv_17 s6_C (s6_S h17)
  by_cases h18 : (xs 0 &&& 63).toInt = 18
  · exact aLaw_ok hT aEv_18 s6_C (s6_S h18)
  by_cases h19 : (xs 0 &&& 63).toInt = 19
  · exact aLaw_ok hT aEv_19 s6_C (s6_S h19)
  by_cases h20 : (xs 0 &&& 63).toInt = 20
  · exact aLaw_ok hT aEv_20 s6_C (s6_S h20)
  by_cases h21 : (xs 0 &&& 63).toInt = 21
  · exact aLaw_ok hT aEv_21 s6_C (s6_S h21)
  by_cases h22 : (xs 0 &&& 63).toInt = 22
  · exact aLaw_ok hT aEv_22 s6_C (s6_S h22)
  by_cases h23 : (xs 0 &&& 63).toInt = 23
  · exact aLaw_ok hT aEv_23 s6_C (s6_S h23)
  by_cases h24 : (xs 0 &&& 63).toInt = 24
  · exact aLaw_ok hT aEv_24 s6_C (s6_S h24)
  by_cases h25 : (xs 0 &&& 63).toInt = 25
  · exact aLaw_ok hT aEv_25 s6_C (s6_S h25)
  by_cases h26 : (xs 0 &&& 63).toInt = 26
  · exact aLaw_ok hT aEv_26 s6_C (s6_S h26)
  by_cases h27 : (xs 0 &&& 63).toInt = 27
  · exact aLaw_ok hT aEv_27 s6_C (s6_S h27)
  by_cases h28 : (xs 0 &&& 63).toInt = 28
  · exact aLaw_ok hT aEv_28 s6_C (s6_S h28)
  by_cases h29 : (xs 0 &&& 63).toInt = 29
  · exact aLaw_ok hT aEv_29 s6_C (s6_S h29)
  by_cases h30 : (xs 0 &&& 63).toInt = 30
  · exact aLaw_ok hT aEv_30 s6_C (s6_S h30)
  by_cases h31 : (xs 0 &&& 63).toInt = 31
  · exact aLaw_ok hT aEv_31 s6_C (s6_S h31)
  by_cases h32 : (xs 0 &&& 63).toInt = 32
  · exact aLaw_ok hT aEv_32 s6_C (s6_S h32)
  by_cases h33 : (xs 0 &&& 63).toInt = 33
  · exact aLaw_ok hT aEv_33 s6_C (s6_S h33)
  by_cases h34 : (xs 0 &&& 63).toInt = 34
  · exact aLaw_ok hT aEv_34 s6_C (s6_S h34)
  by_cases h35 : (xs 0 &&& 63).toInt = 35
  · exact aLaw_ok hT aEv_35 s6_C (s6_S h35)
  by_cases h36 : (xs 0 &&& 63).toInt = 36
  · exact aLaw_ok hT aEv_36 s6_C (s6_S h36)
  by_cases h37 : (xs 0 &&& 63).toInt = 37
  · exact aLaw_ok hT aEv_37 s6_C (s6_S h37)
  by_cases h38 : (xs 0 &&& 63).toInt = 38
  · exact aLaw_ok hT aEv_38 s6_C (s6_S h38)
  by_cases h39 : (xs 0 &&& 63).toInt = 39
  · exact aLaw_ok hT aEv_39 s6_C (s6_S h39)
  by_cases h40 : (xs 0 &&& 63).toInt = 40
  · exact aLaw_ok hT aEv_40 s6_C (s6_S h40)
  by_cases h41 : (xs 0 &&& 63).toInt = 41
  · exact aLaw_ok hT aEv_41 s6_C (s6_S h41)
  by_cases h42 : (xs 0 &&& 63).toInt = 42
  · exact mLaw_42 hT xs h42
  by_cases h43 : (xs 0 &&& 63).toInt = 43
  · exact aLaw_ok hT aEv_43 s6_C (s6_S h43)
  by_cases h44 : (xs 0 &&& 63).toInt = 44
  · exact aLaw_ok hT aEv_44 s6_C (s6_S h44)
  by_cases h45 : (xs 0 &&& 63).toInt = 45
  · exact aLaw_ok hT aEv_45 s6_C (s6_S h45)
  by_cases h46 : (xs 0 &&& 63).toInt = 46
  · exact aLaw_ok hT aEv_46 s6_C (s6_S h46)
  by_cases h47 : (xs 0 &&& 63).toInt = 47
  · exact aLaw_ok hT aEv_47 s6_C (s6_S h47)
  by_cases h48 : (xs 0 &&& 63).toInt = 48
  · exact aLaw_ok hT aEv_48 s6_C (s6_S h48)
  by_cases h49 : (xs 0 &&& 63).toInt = 49
  · exact aLaw_ok hT aEv_49 s6_C (s6_S h49)
  by_cases h50 : (xs 0 &&& 63).toInt = 50
  · exact aLaw_ok hT aEv_50 s6_C (s6_S h50)
  by_cases h51 : (xs 0 &&& 63).toInt = 51
  · exact aLaw_ok hT aEv_51 s6_C (s6_S h51)
  by_cases h52 : (xs 0 &&& 63).toInt = 52
  · exact aLaw_ok hT aEv_52 s6_C (s6_S h52)
  by_cases h53 : (xs 0 &&& 63).toInt = 53
  · exact aLaw_ok hT aEv_53 s6_C (s6_S h53)
  by_cases h54 : (xs 0 &&& 63).toInt = 54
  · exact aLaw_ok hT aEv_54 s6_C (s6_S h54)
  by_cases h55 : (xs 0 &&& 63).toInt = 55
  · exact aLaw_ok hT aEv_55 s6_C (s6_S h55)
  by_cases h56 : (xs 0 &&& 63).toInt = 56
  · exact aLaw_ok hT aEv_56 s6_C (s6_S h56)
  by_cases h57 : (xs 0 &&& 63).toInt = 57
  · exact aLaw_ok hT aEv_57 s6_C (s6_S h57)
  by_cases h58 : (xs 0 &&& 63).toInt = 58
  · exact aLaw_ok hT aEv_58 s6_C (s6_S h58)
  by_cases h59 : (xs 0 &&& 63).toInt = 59
  · exact aLaw_ok hT aEv_59 s6_C (s6_S h59)
  by_cases h60 : (xs 0 &&& 63).toInt = 60
  · exact aLaw_ok hT aEv_60 s6_C (s6_S h60)
  by_cases h61 : (xs 0 &&& 63).toInt = 61
  · exact aLaw_ok hT aEv_61 s6_C (s6_S h61)
  by_cases h62 : (xs 0 &&& 63).toInt = 62
  · exact aLaw_ok hT aEv_62 s6_C (s6_S h62)
  by_cases h63 : (xs 0 &&& 63).toInt = 63
  · exact aLaw_ok hT aEv_63 s6_C (s6_S h63)
  omega
