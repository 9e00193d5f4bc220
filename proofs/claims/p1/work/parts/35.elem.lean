/-! CELLS BY THEIR PLACES; what a loop's head makes of a heap -/
theorem aSetEl_ne {h : aHe} {c k c' : Nat} {v : aV} (hne : c' ≠ c) : hget (aSetEl h c k v) c' = hget h c' := by
  unfold aSetEl
  split
  · rw [hget_set, if_neg (fun z => hne z.1)]
  · rw [hget_set, if_neg (fun z => hne z.1)]
  · rfl
theorem aSetEl_1 {h : aHe} {c k : Nat} {v : aV} : (aSetEl h c k v).1 = h.1 := by
  unfold aSetEl
  split
  · rw [hset_1]
  · rw [hset_1]
  · rfl
theorem aSetEls_ne {c' : Nat} : ∀ (ks : List (Nat × Nat × Int × Int)) (j : Nat) (h : aHe), (∀ q ∈ ks, q.1 ≠ c') → hget (aSetEls h j ks) c' = hget h c' := by
  intro ks
  induction ks with
  | nil => intro j h _; rfl
  | cons p ks ih =>
    intro j h hk
    obtain ⟨c, k, lo, hi⟩ := p
    unfold aSetEls
    rw [ih _ _ (fun q hq => hk q (List.mem_cons_of_mem _ hq)), aSetEl_ne (fun z => hk _ List.mem_cons_self z.symm)]
theorem aSetEls_1 : ∀ (ks : List (Nat × Nat × Int × Int)) (j : Nat) (h : aHe), (aSetEls h j ks).1 = h.1 := by
  intro ks
  induction ks with
  | nil => intro j h; rfl
  | cons p ks ih =>
    intro j h
    obtain ⟨c, k, lo, hi⟩ := p
    unfold aSetEls
    rw [ih, aSetEl_1]
theorem aSetRows_ne {cs : aC} {lv : List (Nat × aV)} {c' : Nat} : ∀ (ps : List ((Nat × Nat) × Int × Int)) (h h1 : aHe), aSetRows cs lv h ps = some h1 → (∀ q ∈ ps, aRef lv q.1 ≠ some c') → hget h1 c' = hget h c' ∧ h1.1 = h.1 := by
  intro ps
  induction ps with
  | nil => intro h h1 hr _; cases hr; exact ⟨rfl, rfl⟩
  | cons p ps ih =>
    intro h h1 hr hk
    obtain ⟨p, lo, hi⟩ := p
    unfold aSetRows at hr
    split at hr
    · cases hr
    · next c hc =>
      split at hr
      · cases hr
      · next n hn =>
        have h2 := ih _ _ hr (fun q hq => hk q (List.mem_cons_of_mem _ hq))
        refine ⟨h2.1.trans ?_, h2.2.trans (hset_1 _ _ _)⟩
        rw [hget_set, if_neg]
        intro z
        exact hk _ List.mem_cons_self (by rw [z.1]; exact hc)
theorem aSetRows_1 {cs : aC} {lv : List (Nat × aV)} : ∀ (ps : List ((Nat × Nat) × Int × Int)) (h h1 : aHe), aSetRows cs lv h ps = some h1 → h1.1 = h.1 := by
  intro ps
  induction ps with
  | nil => intro h h1 hr; cases hr; rfl
  | cons p ps ih =>
    intro h h1 hr
    obtain ⟨p, lo, hi⟩ := p
    unfold aSetRows at hr
    split at hr
    · cases hr
    · split at hr
      · cases hr
      · exact (ih _ _ hr).trans (hset_1 _ _ _)
/-- a number at a place of a cell -/
def mElem (M : mHe) (c k : Nat) : Option Value := match M[c]? with
  | some (.inl (n, f)) => bif Nat.blt k n then some (.int (f k)) else none
  | some (.inr (_, fs)) => fs[k]?
  | none => none
def aShp (c : aCe) : Nat × Nat × Nat := match c with
  | .inl a => (0, a.1, 0)
  | .inr (ci, fs) => (1, ci, fs.length)
def mShp (m : mCe) : Nat × Nat × Nat := match m with
  | .inl (n, _) => (0, n, 0)
  | .inr (ci, fs) => (1, ci, fs.length)
theorem blt_iff (a b : Nat) : Nat.blt a b = true ↔ a < b := by
  unfold Nat.blt
  rw [Nat.ble_eq]
  omega
theorem xS_iff {E : List Int} : ∀ {l : List aV} {m : List Value}, xS E l m ↔ l.length = m.length ∧ ∀ (k : Nat) (a : aV), l[k]? = some a → ∃ v, m[k]? = some v ∧ xV E a v := by
  intro l
  induction l with
  | nil =>
    intro m
    constructor
    · intro h; rw [xS_nil h]; exact ⟨rfl, fun k a z => by simp at z⟩
    · intro h
      cases m with
      | nil => trivial
      | cons v m => exact absurd h.1 (by simp)
  | cons a l ih =>
    intro m
    constructor
    · intro h; exact ⟨xS_len h, fun k b hk => xS_get h hk⟩
    · intro h
      cases m with
      | nil => exact absurd h.1 (by simp)
      | cons v m =>
        refine ⟨?_, ih.mpr ⟨by simpa using h.1, fun k b hk => ?_⟩⟩
        · obtain ⟨v', h1, h2⟩ := h.2 0 a rfl
          simp only [List.getElem?_cons_zero, Option.some.injEq] at h1
          rw [h1]; exact h2
        · obtain ⟨v', h1, h2⟩ := h.2 (k + 1) b (by simpa using hk)
          exact ⟨v', by simpa using h1, h2⟩
theorem xH_elem {E : List Int} {h : aHe} {M : mHe} {c k : Nat} {a : aV} (hh : xH E h M) (ha : aElem h c k = some a) : ∃ v, mElem M c k = some v ∧ xV E a v := by
  unfold aElem at ha
  split at ha
  · next x hx =>
    obtain ⟨m, h1, h2⟩ := hh.2 c _ hx
    obtain ⟨n, f, rfl, h3⟩ := xC_arr h2
    cases hb : Nat.blt k x.1
    · rw [hb] at ha; cases ha
    · rw [hb, cond_true] at ha
      cases ha
      have hb2 := hb
      rw [h3.1] at hb2
      refine ⟨_, ?_, h3.2 k ((blt_iff _ _).mp hb2)⟩
      unfold mElem
      rw [h1]
      simp only
      rw [hb2]; rfl
  · next ci fs hx =>
    obtain ⟨m, h1, h2⟩ := hh.2 c _ hx
    obtain ⟨fs', rfl, h3⟩ := xC_obj h2
    obtain ⟨v, h4, h5⟩ := xS_get h3 ha
    refine ⟨v, ?_, h5⟩
    unfold mElem
    rw [h1]; exact h4
  · cases ha
theorem xH_shp {E : List Int} {h : aHe} {M : mHe} {c : Nat} {x : aCe} (hh : xH E h M) (hx : hget h c = some x) : ∃ m, M[c]? = some m ∧ aShp x = mShp m := by
  obtain ⟨m, h1, h2⟩ := hh.2 c _ hx
  refine ⟨m, h1, ?_⟩
  cases x with
  | inl a =>
    obtain ⟨n, f, rfl, h3⟩ := xC_arr h2
    have h4 := h3.1
    simp only [aShp, mShp, h4]
  | inr p =>
    obtain ⟨ci, fs⟩ := p
    obtain ⟨fs', rfl, h3⟩ := xC_obj h2
    unfold aShp mShp
    simp only
    rw [xS_len h3]
/-- a heap by its places -/
theorem xH_mk {E : List Int} {h : aHe} {M : mHe} (h0 : h.1 = M.length) (h1 : ∀ c x, hget h c = some x → ∃ m, M[c]? = some m ∧ aShp x = mShp m) (h2 : ∀ c k a, aElem h c k = some a → ∃ v, mElem M c k = some v ∧ xV E a v) : xH E h M := by
  refine ⟨h0, fun c x hx => ?_⟩
  obtain ⟨m, g1, g2⟩ := h1 c x hx
  refine ⟨m, g1, ?_⟩
  cases x with
  | inl a =>
    cases m with
    | inr p => obtain ⟨ci, fs⟩ := p; unfold aShp mShp at g2; cases g2
    | inl p =>
      obtain ⟨n, f⟩ := p
      unfold aShp mShp at g2
      simp only [Prod.mk.injEq, and_true, true_and] at g2
      refine ⟨g2, fun j hj => ?_⟩
      have hb : Nat.blt j n = true := (blt_iff _ _).mpr hj
      obtain ⟨v, g3, g4⟩ := h2 c j (aGetA a j) (by
        unfold aElem
        rw [hx]
        simp only
        rw [g2, hb]; rfl)
      unfold mElem at g3
      rw [g1] at g3
      simp only at g3
      rw [hb, cond_true] at g3
      cases g3
      exact g4
  | inr p =>
    obtain ⟨ci, fs⟩ := p
    cases m with
    | inl p => obtain ⟨n, f⟩ := p; unfold aShp mShp at g2; cases g2
    | inr p =>
      obtain ⟨ci', fs'⟩ := p
      unfold aShp mShp at g2
      simp only [Prod.mk.injEq, true_and] at g2
      refine ⟨g2.1, xS_iff.mpr ⟨g2.2, fun k a hk => ?_⟩⟩
      obtain ⟨v, g3, g4⟩ := h2 c k a (by
        unfold aElem
        rw [hx]; exact hk)
      unfold mElem at g3
      rw [g1] at g3
      exact ⟨v, g3, g4⟩
theorem aElem_congr {h h' : aHe} {c k : Nat} (e : hget h c = hget h' c) : aElem h c k = aElem h' c k := by
  unfold aElem; rw [e]
theorem aElem_set {h : aHe} {c k c' k' : Nat} {v : aV} : aElem (aSetEl h c k v) c' k' = if c' = c ∧ k' = k ∧ (aElem h c k).isSome then some v else aElem h c' k' := by
  by_cases hc : c' = c
  · subst hc
    unfold aSetEl
    split
    · next a ha =>
      have e1 : hget (hset h c' (.inl (aSetA a k v))) c' = some (.inl (aSetA a k v)) := by rw [hget_set, if_pos ⟨rfl, by rw [ha]; rfl⟩]
      unfold aElem
      rw [e1, ha]
      simp only
      rw [aSetA_1]
      by_cases hk : k' = k
      · subst hk
        cases hb : Nat.blt k' a.1
        · simp
        · rw [aGetA_set]; simp
      · rw [aGetA_set, if_neg hk, if_neg (fun z => hk z.2.1)]
    · next ci fs ha =>
      have e1 : hget (hset h c' (.inr (ci, fs.set k v))) c' = some (.inr (ci, fs.set k v)) := by rw [hget_set, if_pos ⟨rfl, by rw [ha]; rfl⟩]
      unfold aElem
      rw [e1, ha]
      simp only
      by_cases hk : k' = k
      · subst hk
        cases hf : fs[k']? with
        | none => rw [List.getElem?_set]; simp; exact List.getElem?_eq_none_iff.mp hf
        | some a =>
          have := (List.getElem?_eq_some_iff.mp hf).1
          rw [List.getElem?_set_self this]; simp
      · rw [List.getElem?_set_ne (Ne.symm hk), if_neg (fun z => hk z.2.1)]
    · next ha =>
      have : aElem h c' k = none := by unfold aElem; rw [ha]
      rw [this]; simp
  · rw [aElem_congr (aSetEl_ne hc), if_neg (fun z => hc z.1)]
theorem aSetEl_shp {h : aHe} {c k c' : Nat} {v : aV} : (hget (aSetEl h c k v) c').map aShp = (hget h c').map aShp := by
  by_cases hc : c' = c
  · subst hc
    unfold aSetEl
    split
    · next a ha =>
      rw [hget_set, if_pos ⟨rfl, by rw [ha]; rfl⟩, ha]
      simp only [Option.map_some, aShp, aSetA_1]
    · next ci fs ha =>
      rw [hget_set, if_pos ⟨rfl, by rw [ha]; rfl⟩, ha]
      simp only [Option.map_some, aShp, List.length_set]
    · rfl
  · rw [aSetEl_ne hc]
theorem aSetEls_shp {c' : Nat} : ∀ (ks : List (Nat × Nat × Int × Int)) (j : Nat) (h : aHe), (hget (aSetEls h j ks) c').map aShp = (hget h c').map aShp := by
  intro ks
  induction ks with
  | nil => intro j h; rfl
  | cons p ks ih =>
    intro j h
    obtain ⟨c, k, lo, hi⟩ := p
    unfold aSetEls
    rw [ih, aSetEl_shp]
/-- a place after the new numbers are set: a new number, or as before -/
theorem aSetEls_at {c k : Nat} {a : aV} : ∀ (ks : List (Nat × Nat × Int × Int)) (j : Nat) (h : aHe), aElem (aSetEls h j ks) c k = some a → (∃ i lo hi, ks[i]? = some (c, k, lo, hi) ∧ a = (4, j + i, 0, 0)) ∨ ((∀ lo hi, (c, k, lo, hi) ∉ ks) ∧ aElem h c k = some a) := by
  intro ks
  induction ks with
  | nil => intro j h ha; exact Or.inr ⟨fun _ _ z => (by cases z), ha⟩
  | cons p ks ih =>
    intro j h ha
    obtain ⟨c1, k1, lo1, hi1⟩ := p
    unfold aSetEls at ha
    rcases ih _ _ ha with ⟨i, lo, hi, h1, h2⟩ | ⟨h1, h2⟩
    · exact Or.inl ⟨i + 1, lo, hi, by simpa using h1, by rw [h2, show j + 1 + i = j + (i + 1) by omega]⟩
    · rw [aElem_set] at h2
      by_cases hq : c = c1 ∧ k = k1 ∧ (aElem h c1 k1).isSome
      · rw [if_pos hq] at h2
        cases h2
        exact Or.inl ⟨0, lo1, hi1, by rw [hq.1, hq.2.1]; rfl, rfl⟩
      · rw [if_neg hq] at h2
        refine Or.inr ⟨fun lo hi z => ?_, h2⟩
        rcases List.mem_cons.mp z with z | z
        · cases z
          exact hq ⟨rfl, rfl, by rw [h2]; rfl⟩
        · exact h1 lo hi z
