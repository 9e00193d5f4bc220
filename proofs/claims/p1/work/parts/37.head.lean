/-! A LOOP'S HEAD, first and again -/
def xStb (F : List Int) (a : aV) : Prop := ∃ v, xV F a v
theorem xV_tr {F Y X : List Int} {a : aV} {v : Value} (hs : xStb F a) (h : xV (F ++ Y) a v) : xV (F ++ X) a v := by
  obtain ⟨w, hw⟩ := hs
  have ap : ∀ {i : Nat} {e0 e : Int}, F[i]? = some e0 → (F ++ Y)[i]? = some e → (F ++ X)[i]? = some e := by
    intro i e0 e h0 h1
    have hl := (List.getElem?_eq_some_iff.mp h0).1
    rw [List.getElem?_append_left hl] at h1 ⊢
    exact h1
  unfold xV at h hw ⊢
  split at h
  · exact h
  · exact h
  · exact h
  · exact h
  · obtain ⟨x, e, h1, h2, h3⟩ := h
    obtain ⟨x0, e0, -, g2, -⟩ := hw
    exact ⟨x, e, h1, ap g2 h2, h3⟩
  · obtain ⟨x, e, h1, h2, h3⟩ := h
    obtain ⟨x0, e0, -, g2, -⟩ := hw
    exact ⟨x, e, h1, ap g2 h2, h3⟩
  · obtain ⟨x, e, h1, h2, h3⟩ := h
    obtain ⟨x0, e0, -, g2, -⟩ := hw
    exact ⟨x, e, h1, ap g2 h2, h3⟩
  · exact h
  · exact h.elim
theorem aSameL_eq : ∀ {a b : List (Nat × aV)}, aSameL a b = true → a = b := by
  intro a
  induction a with
  | nil => intro b h; cases b with
    | nil => rfl
    | cons q b => cases h
  | cons p a ih =>
    intro b h
    cases b with
    | nil => obtain ⟨j, v⟩ := p; cases h
    | cons q b =>
      obtain ⟨j, v⟩ := p
      obtain ⟨k, w⟩ := q
      unfold aSameL at h
      rw [Bool.and_eq_true, Bool.and_eq_true] at h
      rw [Nat.eq_of_beq_eq_true h.1.1, aSame_eq h.1.2, ih h.2]
theorem aSameV_eq : ∀ {a b : List aV}, aSameV a b = true → a = b := by
  intro a
  induction a with
  | nil => intro b h; cases b with
    | nil => rfl
    | cons q b => cases h
  | cons p a ih =>
    intro b h
    cases b with
    | nil => cases h
    | cons q b =>
      unfold aSameV at h
      rw [Bool.and_eq_true] at h
      rw [aSame_eq h.1, ih h.2]
theorem aSameC_eq {a b : Option aCe} (h : aSameC a b = true) : a = b := by
  unfold aSameC at h
  split at h
  · next x y =>
    rw [Bool.and_eq_true, Bool.and_eq_true] at h
    obtain ⟨x1, x2, x3⟩ := x
    obtain ⟨y1, y2, y3⟩ := y
    simp only at h
    rw [Nat.eq_of_beq_eq_true h.1.1, aSame_eq h.1.2, aSameL_eq h.2]
  · next x y =>
    rw [Bool.and_eq_true] at h
    obtain ⟨x1, x2⟩ := x
    obtain ⟨y1, y2⟩ := y
    simp only at h
    rw [Nat.eq_of_beq_eq_true h.1, aSameV_eq h.2]
  · cases h
def aSt (F V : List Int) (L : aLp) (clv : List (Nat × Value)) (M : mHe) : Prop := xE (F ++ V) L.2.2.2.2.2.2.2 ∧ xL (F ++ V) L.2.2.2.2.1 clv ∧ xH (F ++ V) L.2.2.2.2.2.2.1 M
def aLess (up : Bool) (e e' : Int) : Prop := bif up then e < e' else e' < e
/-- back at the head: the head's state holds again, and what grows has grown -/
def aLpOk (F : List Int) (L : aLp) : Prop := ∀ (Y : List Int) (cs : aC) (lv : List (Nat × aV)) (h : aHe) (clv : List (Nat × Value)) (M : mHe), aBack L lv h cs = true → xE (F ++ Y) cs → xL (F ++ Y) lv clv → xH (F ++ Y) h M → (∀ k, k ∉ L.2.2.2.2.2.1 → hget h k = hget L.2.2.2.2.2.2.1 k) → h.1 = L.2.2.2.2.2.2.1.1 → ∃ V, aSt F V L clv M ∧ ∃ e', V[L.2.2.1.2.2.2.2.2.2.1]? = some e' ∧ ∀ e, (F ++ Y)[F.length + L.2.2.1.2.2.2.2.2.2.1]? = some e → aLess L.2.2.1.2.2.2.2.2.2.2 e e'
theorem get_l {F X : List Int} {i : Nat} {e : Int} (h : F[i]? = some e) : (F ++ X)[i]? = some e := by
  rw [List.getElem?_append_left (List.getElem?_eq_some_iff.mp h).1]; exact h
theorem get_r {F X : List Int} {j : Nat} : (F ++ X)[F.length + j]? = X[j]? := by
  rw [List.getElem?_append_right (by omega)]
  congr 1
  omega
theorem aSide_sd {kp : List Nat} {p : Nat × Nat} (h : aSide kp p = true) : p.1 = 0 ∨ p.2 ∈ kp := by
  obtain ⟨t, k⟩ := p
  cases t with
  | zero => exact Or.inl rfl
  | succ t =>
    right
    obtain ⟨z, hz, hzk⟩ := List.any_eq_true.mp h
    have := Nat.eq_of_beq_eq_true hzk
    subst this
    exact hz
section HEAD
variable {F Y : List Int} {cs csF : aC} {lv lvh : List (Nat × aV)} {clv : List (Nat × Value)} {h h1 : aHe} {M : mHe} {kp : List Nat} {ls : List (Nat × Int × Int)} {els : List (Nat × Nat × Int × Int)} {rows : List ((Nat × Nat) × Int × Int)} {ds : List ((Nat × Nat) × (Nat × Nat) × Int)} {dcs : List (Nat × Nat × Int)} {v1 v2 : List aV} {kept : List (Nat × aV)} {V : List Int}
/-- a side's number is the atom's -/
theorem aSide_ok {p : Nat × Nat} {i : Nat} {n : Int} (hL : xL (F ++ Y) lv clv) (hk : ∀ k ∈ kp, alg k lv = alg k lvh) (hst : ∀ k a, alg k lvh = some a → xStb F a) (hs : aSide kp p = true) (hi : aAtom F.length lvh p = some i) (hn : nVal V clv p = some n) : (F ++ V)[i]? = some n := by
  obtain ⟨t, k⟩ := p
  cases t with
  | zero =>
    cases hi
    rw [get_r]; exact hn
  | succ t =>
    have hkk : k ∈ kp := (aSide_sd hs).resolve_left (by simp)
    unfold aAtom at hi
    simp only at hi
    split at hi
    · next i' z hz =>
      cases hi
      obtain ⟨c, g1, g2⟩ := hL k _ (by rw [hk k hkk]; exact hz)
      have g3 := xV_tr (X := V) (hst k _ hz) g2
      obtain ⟨x, e, rfl, g4, g5⟩ := g3
      simp only [nVal, g1] at hn
      cases hn
      rw [g4, g5]
      simp
    · cases hi
theorem aMk (hF : xE F csF) (hE : xE (F ++ Y) cs) (hL : xL (F ++ Y) lv clv) (hH : xH (F ++ Y) h M) (hk : ∀ k ∈ kp, alg k lv = alg k lvh) (hst : ∀ k a, alg k lvh = some a → xStb F a) (hsd : (ds.all (fun q => aSide kp q.1 && aSide kp q.2.1)) = true) (e1 : aVals cs lv ls = some v1) (e2 : aElems cs h els = some v2) (e3 : aDiffs cs (v1 ++ v2) lv ds = true) (e4 : aDcs F.length lvh ds = some dcs) :
    ∃ V : List Int, xE (F ++ V) (csF.1 ++ ls.map (fun q => (q.2.1, q.2.2)) ++ els.map (fun q => (q.2.2.1, q.2.2.2)), dcs ++ csF.2) ∧ (∀ (j k : Nat) (lo hi : Int), ls[j]? = some (k, lo, hi) → ∃ x : Int32, mlg k clv = some (.int x) ∧ V[j]? = some x.toInt) ∧ (∀ (j c k : Nat) (lo hi : Int), els[j]? = some (c, k, lo, hi) → ∃ x : Int32, mElem M c k = some (.int x) ∧ V[ls.length + j]? = some x.toInt) ∧ (∀ (j : Nat) (a : aV), (v1 ++ v2)[j]? = some a → ∃ x : Int32, V[j]? = some x.toInt ∧ xV (F ++ Y) a (.int x)) := by
  obtain ⟨V1, a1, a2, a3, a4, a5⟩ := aVals_ok hE hL ls v1 e1
  obtain ⟨V2, b1, b2, b3, b4, b5⟩ := aElems_ok hE hH els v2 e2
  have hr : ∀ j, (V1 ++ V2)[ls.length + j]? = V2[j]? := fun j => by rw [← a1]; exact get_r
  have hV : ∀ (j : Nat) (a : aV), (v1 ++ v2)[j]? = some a → ∃ x : Int32, (V1 ++ V2)[j]? = some x.toInt ∧ xV (F ++ Y) a (.int x) := by
    intro j a hj
    by_cases hjl : j < v1.length
    · rw [List.getElem?_append_left hjl] at hj
      obtain ⟨x, c1, c2⟩ := a5 j a hj
      exact ⟨x, get_l c1, c2⟩
    · rw [List.getElem?_append_right (by omega)] at hj
      obtain ⟨x, c1, c2⟩ := b5 _ a hj
      refine ⟨x, ?_, c2⟩
      rw [List.getElem?_append_right (by omega), show j - V1.length = j - v1.length by omega]
      exact c1
  have hdc := aDcs_mem ds dcs e4
  have hsd2 : ∀ t ∈ ds, aSide kp t.1 = true ∧ aSide kp t.2.1 = true := fun t ht => by
    have := List.all_eq_true.mp hsd t ht
    rwa [Bool.and_eq_true] at this
  have sdk : ∀ p : Nat × Nat, aSide kp p = true → aSdOk lvh p → aSdOk lv p := by
    intro p hp hq
    obtain ⟨t, k⟩ := p
    cases t with
    | zero => trivial
    | succ t =>
      have hkk : k ∈ kp := (aSide_sd hp).resolve_left (by simp)
      obtain ⟨i, z, hz⟩ := hq
      exact ⟨i, z, by rw [hk k hkk]; exact hz⟩
  have hdf := aDiffs_ok hE hL hV ds e3 (fun t ht => ⟨sdk _ (hsd2 t ht).1 (aAtom_sd (hdc.2 t ht).1), sdk _ (hsd2 t ht).2 (aAtom_sd (hdc.2 t ht).2)⟩)
  refine ⟨V1 ++ V2, ⟨?_, ?_, ?_, ?_⟩, ?_, ?_, hV⟩
  · simp only [List.length_append, List.length_map]
    have := hF.1
    omega
  · intro i e he
    rcases List.mem_append.mp (List.mem_of_getElem? he) with hm | hm
    · obtain ⟨k, hk1⟩ := List.mem_iff_getElem?.mp hm
      exact hF.2.1 k e hk1
    · rcases List.mem_append.mp hm with hm | hm
      · exact a3 e hm
      · exact b3 e hm
  · intro i l u e hi he
    simp only at hi
    by_cases h1 : i < F.length
    · rw [List.getElem?_append_left h1] at he
      rw [List.append_assoc, List.getElem?_append_left (by rw [← hF.1]; exact h1)] at hi
      exact hF.2.2.1 i l u e hi he
    · rw [List.getElem?_append_right (by omega)] at he
      rw [List.append_assoc, List.getElem?_append_right (by rw [← hF.1]; omega), ← hF.1] at hi
      generalize i - F.length = j at he hi
      by_cases h2 : j < ls.length
      · rw [List.getElem?_append_left (by omega)] at he
        rw [List.getElem?_append_left (by simpa using h2), List.getElem?_map] at hi
        cases hl : ls[j]? with
        | none => rw [hl] at hi; cases hi
        | some q =>
          rw [hl] at hi
          obtain ⟨k, lo, hi'⟩ := q
          simp only [Option.map_some, Option.some.injEq, Prod.mk.injEq] at hi
          obtain ⟨x, c1, c2, c3, c4⟩ := a4 j k lo hi' hl
          rw [he] at c2
          cases c2
          omega
      · rw [List.getElem?_append_right (by omega)] at he
        rw [List.getElem?_append_right (by simp; omega), List.getElem?_map, List.length_map] at hi
        rw [a1] at he
        cases hl : els[j - ls.length]? with
        | none => rw [hl] at hi; cases hi
        | some q =>
          rw [hl] at hi
          obtain ⟨c, k, lo, hi'⟩ := q
          simp only [Option.map_some, Option.some.injEq, Prod.mk.injEq] at hi
          obtain ⟨x, c1, c2, c3, c4⟩ := b4 _ c k lo hi' hl
          rw [he] at c2
          cases c2
          omega
  · intro t ht
    rcases List.mem_append.mp ht with ht | ht
    · obtain ⟨s, c1, c2, c3, c4⟩ := hdc.1 t ht
      obtain ⟨m, n, g1, g2, g3⟩ := hdf s c1
      exact ⟨m, n, aSide_ok hL hk hst (hsd2 s c1).1 c2 g1, aSide_ok hL hk hst (hsd2 s c1).2 c3 g2, by rw [← c4]; exact g3⟩
    · obtain ⟨x, y, c1, c2, c3⟩ := hF.2.2.2 t ht
      exact ⟨x, y, get_l c1, get_l c2, c3⟩
  · intro j k lo hi hj
    obtain ⟨x, c1, c2, -⟩ := a4 j k lo hi hj
    exact ⟨x, c1, get_l c2⟩
  · intro j c k lo hi hj
    obtain ⟨x, c1, c2, -⟩ := b4 j c k lo hi hj
    exact ⟨x, c1, by rw [hr]; exact c2⟩
theorem aMkL (hL : xL (F ++ Y) lv clv) (hk : ∀ k ∈ kp, alg k lv = alg k lvh) (hst : ∀ k a, alg k lvh = some a → xStb F a) (hkp : aKeep lv kp = some kept) (hV : ∀ (j k : Nat) (lo hi : Int), ls[j]? = some (k, lo, hi) → ∃ x : Int32, mlg k clv = some (.int x) ∧ V[j]? = some x.toInt) : xL (F ++ V) (aNewL F.length ls ++ kept) clv := by
  intro k v hv
  rw [alg_app] at hv
  split at hv
  · next w hw =>
    cases hv
    obtain ⟨i, lo, hi, c1, c2⟩ := aNewL_at _ _ hw
    obtain ⟨x, c3, c4⟩ := hV i k lo hi c1
    subst c2
    exact ⟨_, c3, x, x.toInt, rfl, by rw [get_r]; exact c4, by omega⟩
  · obtain ⟨c1, c2⟩ := (aKeep_at (k := k) kp kept hkp).1 v hv
    obtain ⟨c, c3, c4⟩ := hL k v c2
    exact ⟨c, c3, xV_tr (hst k v (by rw [← hk k c1]; exact c2)) c4⟩
/-- places outside the new numbers keep to the atoms of before -/
def hStb (F : List Int) (els : List (Nat × Nat × Int × Int)) (h0 : aHe) : Prop := ∀ c k a, aElem h0 c k = some a → (∀ lo hi, (c, k, lo, hi) ∉ els) → xStb F a
theorem aMkE {h0 : aHe} {c k : Nat} {a : aV} (hH : xH (F ++ Y) h1 M) (hst : hStb F els h0) (hV : ∀ (j c k : Nat) (lo hi : Int), els[j]? = some (c, k, lo, hi) → ∃ x : Int32, mElem M c k = some (.int x) ∧ V[ls.length + j]? = some x.toInt) (h0e : aElem h0 c k = some a) (ha : aElem (aSetEls h1 (F.length + ls.length) els) c k = some a) : ∃ v, mElem M c k = some v ∧ xV (F ++ V) a v := by
  rcases aSetEls_at _ _ _ ha with ⟨i, lo, hi, c1, c2⟩ | ⟨c1, c2⟩
  · obtain ⟨x, c3, c4⟩ := hV i c k lo hi c1
    subst c2
    exact ⟨_, c3, x, x.toInt, rfl, by rw [Nat.add_assoc, get_r]; exact c4, by omega⟩
  · obtain ⟨v, c3, c4⟩ := xH_elem hH c2
    exact ⟨v, c3, xV_tr (hst c k a h0e c1) c4⟩
theorem shp_of {x : aCe} {c : Nat} {h0 : aHe} (e : (hget h0 c).map aShp = (hget h1 c).map aShp) (hH : xH (F ++ Y) h1 M) (hx : hget h0 c = some x) : ∃ m, M[c]? = some m ∧ aShp x = mShp m := by
  rw [hx] at e
  cases hc : hget h1 c with
  | none => rw [hc] at e; cases e
  | some z =>
    rw [hc] at e
    simp only [Option.map_some, Option.some.injEq] at e
    obtain ⟨m, c1, c2⟩ := xH_shp hH hc
    exact ⟨m, c1, e.trans c2⟩
end HEAD
