/-! ABSTRACT AND SMALL STATES -/
def xS (E : List Int) : List aV → List Value → Prop
  | [], [] => True
  | a :: l, v :: m => xV E a v ∧ xS E l m
  | _, _ => False
def xL (E : List Int) (al : List (Nat × aV)) (lv : List (Nat × Value)) : Prop := ∀ (k : Nat) (v : aV), alg k al = some v → ∃ c, mlg k lv = some c ∧ xV E v c
def xA (E : List Int) (a : Nat × aV × List (Nat × aV)) (n : Nat) (f : Nat → Int32) : Prop := a.1 = n ∧ ∀ j, j < n → xV E (aGetA a j) (.int (f j))
def xC (E : List Int) : aCe → mCe → Prop
  | .inl a, .inl (n, f) => xA E a n f
  | .inr (ci, fs), .inr (ci', fs') => ci = ci' ∧ xS E fs fs'
  | _, _ => False
def xH (E : List Int) (h : aHe) (M : mHe) : Prop := h.1 = M.length ∧ ∀ (k : Nat) (c : aCe), hget h k = some c → ∃ m, M[k]? = some m ∧ xC E c m
def xSc (E : List Int) (sa : aSc) (sc : Option (Nat × (Nat → Int32))) : Prop := ∀ n a, sa = some (n, a) → ∃ xs, sc = some (n, xs) ∧ xA E a n xs ∧ n < 2 ^ 31
def xO (E : List Int) : Option aV → Option Value → Prop
  | none, none => True
  | some a, some v => xV E a v
  | _, _ => False
def xR (E : List Int) (f : mRes) (fr : mFr) (M : mHe) (res : aRs) : Prop := match res with
  | .inl (afr, h') => ∃ lv' st' M', (f = some (.inl ((afr.1, afr.2.1, lv', st'), M')) ∨ (fr = (afr.1, afr.2.1, lv', st') ∧ M' = M)) ∧ xL E afr.2.2.1 lv' ∧ xS E afr.2.2.2 st' ∧ xH E h' M'
  | .inr (.inl (y2, avs, afr)) => ∃ vs lv1 st1, f = some (.inr (.inl (y2, vs, (afr.1, afr.2.1, lv1, st1)))) ∧ xS E avs vs ∧ xL E afr.2.2.1 lv1 ∧ xS E afr.2.2.2 st1
  | .inr (.inr r) => ∃ r', f = some (.inr (.inr r')) ∧ xO E r r'
theorem xV_app {E X : List Int} {a : aV} {v : Value} (h : xV E a v) : xV (E ++ X) a v := by
  have ap : ∀ {i : Nat} {e : Int}, E[i]? = some e → (E ++ X)[i]? = some e := by
    intro i e hi
    rw [List.getElem?_append_left (List.getElem?_eq_some_iff.mp hi).1]; exact hi
  unfold xV at h ⊢
  split at h
  · exact h
  · exact h
  · exact h
  · exact h
  · obtain ⟨x, e, h1, h2, h3⟩ := h; exact ⟨x, e, h1, ap h2, h3⟩
  · obtain ⟨x, e, h1, h2, h3⟩ := h; exact ⟨x, e, h1, ap h2, h3⟩
  · obtain ⟨x, e, h1, h2, h3⟩ := h; exact ⟨x, e, h1, ap h2, h3⟩
  · exact h
  · exact h.elim
theorem xS_app {E X : List Int} : ∀ {l : List aV} {m : List Value}, xS E l m → xS (E ++ X) l m := by
  intro l
  induction l with
  | nil => intro m h; cases m <;> exact h
  | cons a l ih => intro m h; cases m with
    | nil => exact h
    | cons v m => exact ⟨xV_app h.1, ih h.2⟩
theorem xL_app {E X : List Int} {al : List (Nat × aV)} {lv : List (Nat × Value)} (h : xL E al lv) : xL (E ++ X) al lv := fun k v hk => by
  obtain ⟨c, h1, h2⟩ := h k v hk
  exact ⟨c, h1, xV_app h2⟩
theorem xA_app {E X : List Int} {a : Nat × aV × List (Nat × aV)} {n : Nat} {f : Nat → Int32} (h : xA E a n f) : xA (E ++ X) a n f := ⟨h.1, fun j hj => xV_app (h.2 j hj)⟩
theorem xC_app {E X : List Int} {c : aCe} {m : mCe} (h : xC E c m) : xC (E ++ X) c m := by
  unfold xC at h ⊢
  split at h
  · exact xA_app h
  · exact ⟨h.1, xS_app h.2⟩
  · exact h.elim
theorem xH_app {E X : List Int} {h : aHe} {M : mHe} (hh : xH E h M) : xH (E ++ X) h M := ⟨hh.1, fun k c hk => by
  obtain ⟨m, h1, h2⟩ := hh.2 k c hk
  exact ⟨m, h1, xC_app h2⟩⟩
theorem xSc_app {E X : List Int} {sa : aSc} {sc : Option (Nat × (Nat → Int32))} (h : xSc E sa sc) : xSc (E ++ X) sa sc := fun n a e => by
  obtain ⟨xs, h1, h2, h3⟩ := h n a e
  exact ⟨xs, h1, xA_app h2, h3⟩
theorem xS_nil {E : List Int} {st : List Value} (h : xS E [] st) : st = [] := by
  cases st with
  | nil => rfl
  | cons v m => exact h.elim
theorem xS_cons {E : List Int} {a : aV} {l : List aV} {st : List Value} (h : xS E (a :: l) st) : ∃ v m, st = v :: m ∧ xV E a v ∧ xS E l m := by
  cases st with
  | nil => exact h.elim
  | cons v m => exact ⟨v, m, rfl, h.1, h.2⟩
theorem xS_len {E : List Int} : ∀ {l : List aV} {m : List Value}, xS E l m → l.length = m.length := by
  intro l
  induction l with
  | nil => intro m h; rw [xS_nil h]; rfl
  | cons a l ih =>
    intro m h
    obtain ⟨v, m', rfl, -, h2⟩ := xS_cons h
    rw [List.length_cons, List.length_cons, ih h2]
theorem xS_take {E : List Int} : ∀ {l : List aV} {m : List Value} (k : Nat), xS E l m → xS E (l.take k) (m.take k) ∧ xS E (l.drop k) (m.drop k) := by
  intro l
  induction l with
  | nil => intro m k h; rw [xS_nil h]; cases k <;> exact ⟨trivial, trivial⟩
  | cons a l ih =>
    intro m k h
    obtain ⟨v, m', rfl, h1, h2⟩ := xS_cons h
    cases k with
    | zero => exact ⟨trivial, h1, h2⟩
    | succ k => exact ⟨⟨h1, (ih k h2).1⟩, (ih k h2).2⟩
theorem xS_append {E : List Int} : ∀ {l l2 : List aV} {m m2 : List Value}, xS E l m → xS E l2 m2 → xS E (l ++ l2) (m ++ m2) := by
  intro l
  induction l with
  | nil => intro l2 m m2 h h2; rw [xS_nil h]; exact h2
  | cons a l ih =>
    intro l2 m m2 h h2
    obtain ⟨v, m', rfl, h3, h4⟩ := xS_cons h
    exact ⟨h3, ih h4 h2⟩
theorem xS_rev {E : List Int} : ∀ {l : List aV} {m : List Value}, xS E l m → xS E l.reverse m.reverse := by
  intro l
  induction l with
  | nil => intro m h; rw [xS_nil h]; trivial
  | cons a l ih =>
    intro m h
    obtain ⟨v, m', rfl, h3, h4⟩ := xS_cons h
    rw [List.reverse_cons, List.reverse_cons]
    exact xS_append (ih h4) ⟨h3, trivial⟩
theorem xS_cats {E : List Int} : ∀ {l : List aV} {m : List Value}, xS E l m → mCat m = aCats l := by
  intro l
  induction l with
  | nil => intro m h; rw [xS_nil h]; rfl
  | cons a l ih =>
    intro m h
    obtain ⟨v, m', rfl, h3, h4⟩ := xS_cons h
    have := ih h4
    unfold mCat at this ⊢
    rw [List.map_cons, List.sum_cons, this, xV_cat h3]
    rfl
theorem lg_sl_cat (vs : List Value) : (lg_sl vs).length = mCat vs := by
  induction vs with
  | nil => rfl
  | cons v vs ih =>
    unfold mCat at ih ⊢
    rw [List.map_cons, List.sum_cons, ← ih]
    simp only [lg_sl, List.flatMap_cons, List.length_append]
    cases v <;> simp [Value.category]
theorem xS_get {E : List Int} : ∀ {l : List aV} {m : List Value} {k : Nat} {a : aV}, xS E l m → l[k]? = some a → ∃ v, m[k]? = some v ∧ xV E a v := by
  intro l
  induction l with
  | nil => intro m k a h hk; simp at hk
  | cons b l ih =>
    intro m k a h hk
    obtain ⟨v, m', rfl, h3, h4⟩ := xS_cons h
    cases k with
    | zero => simp only [List.getElem?_cons_zero, Option.some.injEq] at hk; subst hk; exact ⟨v, rfl, h3⟩
    | succ k =>
      obtain ⟨x, h5, h6⟩ := ih h4 (by simpa using hk)
      exact ⟨x, by simpa using h5, h6⟩
theorem xS_set {E : List Int} : ∀ {l : List aV} {m : List Value} {k : Nat} {a : aV} {v : Value}, xS E l m → xV E a v → xS E (l.set k a) (m.set k v) := by
  intro l
  induction l with
  | nil => intro m k a v h hk; rw [xS_nil h]; trivial
  | cons b l ih =>
    intro m k a v h hk
    obtain ⟨w, m', rfl, h3, h4⟩ := xS_cons h
    cases k with
    | zero => exact ⟨hk, h4⟩
    | succ k => exact ⟨h3, ih h4 hk⟩
theorem alg_mem {k : Nat} {v : aV} : ∀ {al : List (Nat × aV)}, alg k al = some v → ∃ q ∈ al, q.1 = k := by
  intro al
  induction al with
  | nil => intro h; cases h
  | cons q al ih =>
    intro h
    obtain ⟨j, w⟩ := q
    unfold alg at h
    cases hb : Nat.beq j k
    · rw [hb, cond_false] at h
      obtain ⟨q, hq, e⟩ := ih h
      exact ⟨q, List.mem_cons_of_mem _ hq, e⟩
    · exact ⟨_, List.mem_cons_self, Nat.eq_of_beq_eq_true hb⟩
theorem alg_filter {k : Nat} {f : Nat → Bool} {v : aV} : ∀ {al : List (Nat × aV)}, alg k (al.filter (fun q => f q.1)) = some v → alg k al = some v ∧ f k = true := by
  intro al
  induction al with
  | nil => intro h; cases h
  | cons q al ih =>
    intro h
    obtain ⟨j, w⟩ := q
    rw [List.filter_cons] at h
    split at h
    · next hf =>
      unfold alg at h ⊢
      cases hb : Nat.beq j k
      · rw [hb, cond_false] at h; exact ih h
      · rw [hb, cond_true] at h
        have := Nat.eq_of_beq_eq_true hb
        subst this
        exact ⟨h, hf⟩
    · next hf =>
      have h1 := ih h
      refine ⟨?_, h1.2⟩
      unfold alg
      cases hb : Nat.beq j k
      · exact h1.1
      · have := Nat.eq_of_beq_eq_true hb
        subst this
        exact absurd h1.2 hf
theorem mlg_filter {k : Nat} {p : Nat × Value → Bool} {c : Value} : ∀ {lv : List (Nat × Value)}, mlg k lv = some c → (∀ q : Nat × Value, q.1 = k → q.2 = c → p q = true) → mlg k (lv.filter p) = some c := by
  intro lv
  induction lv with
  | nil => intro h _; cases h
  | cons q lv ih =>
    intro h hp
    unfold mlg at h ih ⊢
    rw [List.find?_cons] at h
    rw [List.filter_cons]
    by_cases hq : q.1 = k
    · have hb : (q.1 == k) = true := by simpa using hq
      rw [hb] at h
      simp only [Option.map_some, Option.some.injEq] at h
      rw [if_pos (hp q hq h), List.find?_cons, hb]
      simp [h]
    · have hb : (q.1 == k) = false := by simpa using hq
      rw [hb] at h
      split
      · rw [List.find?_cons, hb]
        exact ih h hp
      · exact ih h hp
theorem xL_put {E : List Int} {al : List (Nat × aV)} {lv : List (Nat × Value)} {i : Nat} {a : aV} {v : Value} (h : xL E al lv) (hv : xV E a v) : xL E (alp i a al) (mlp i v lv) := by
  intro k w hk
  unfold alp alg at hk
  cases hb : Nat.beq i k
  · rw [hb, cond_false] at hk
    obtain ⟨h1, h2⟩ := alg_filter (f := fun j => !(Nat.beq j i) && !(Nat.beq (j + 1) i && aC2 j al)) hk
    obtain ⟨c, h3, h4⟩ := h k w h1
    have hki : i ≠ k := fun z => by rw [z] at hb; rw [Nat.beq_refl] at hb; cases hb
    refine ⟨c, ?_, h4⟩
    unfold mlp mlg
    have hik : ((i, v).1 == k) = false := by simpa using hki
    rw [List.find?_cons, hik]
    refine mlg_filter h3 (fun q hq hc => ?_)
    simp only [Bool.and_eq_true, Bool.not_eq_true'] at h2
    rw [hq, hc, xV_cat h4]
    have a1 : (k == i) = false := by simpa using (Ne.symm hki)
    rw [a1]
    simp only [Bool.not_false, Bool.true_and, Bool.not_eq_true', Bool.and_eq_false_iff]
    by_cases hk1 : k + 1 = i
    · right
      have hb2 : Nat.beq (k + 1) i = true := by rw [hk1]; exact Nat.beq_refl i
      rw [hb2] at h2
      have h5 := h2.2
      simp only [Bool.true_and] at h5
      unfold aC2 at h5
      rw [h1] at h5
      have h5 : aIsL w = false := h5
      unfold aCat
      rw [h5]; rfl
    · left; simpa using hk1
  · rw [hb, cond_true] at hk
    cases hk
    have := Nat.eq_of_beq_eq_true hb
    subst this
    refine ⟨v, ?_, hv⟩
    unfold mlp mlg
    rw [List.find?_cons]
    simp
theorem hget_lt {h : aHe} {M : mHe} {E : List Int} {k : Nat} {c : aCe} (hh : xH E h M) (hk : hget h k = some c) : k < M.length := by
  obtain ⟨m, h1, -⟩ := hh.2 k c hk
  exact (List.getElem?_eq_some_iff.mp h1).1
theorem hget_set {h : aHe} {k j : Nat} {c : aCe} : hget (hset h k c) j = if j = k ∧ (hget h k).isSome then some c else hget h j := by
  unfold hset
  cases hl : h.2[k / 12]? with
  | none =>
    have : hget h k = none := by unfold hget; rw [hl]
    rw [this]
    simp
  | some l =>
    have hlen := (List.getElem?_eq_some_iff.mp hl).1
    have hgk : hget h k = l[k % 12]? := by unfold hget; rw [hl]
    rw [hgk]
    unfold hget
    simp only
    by_cases hq : k / 12 = j / 12
    · rw [← hq, List.getElem?_set_self hlen, hl]
      simp only
      by_cases hr : k % 12 = j % 12
      · have hjk : j = k := by omega
        subst hjk
        simp only [true_and]
        rw [List.getElem?_set]
        cases hc : l[j % 12]? with
        | none =>
          have := List.getElem?_eq_none_iff.mp hc
          simp; omega
        | some x =>
          have := (List.getElem?_eq_some_iff.mp hc).1
          simp [this]
      · have hjk : ¬ j = k := fun z => hr (by rw [z])
        rw [if_neg (fun z => hjk z.1), List.getElem?_set_ne hr]
    · have hjk : ¬ j = k := fun z => hq (by rw [z])
      rw [if_neg (fun z => hjk z.1), List.getElem?_set_ne hq]
theorem hset_1 (h : aHe) (k : Nat) (c : aCe) : (hset h k c).1 = h.1 := by
  unfold hset; split <;> rfl
theorem xH_set {E : List Int} {h : aHe} {M : mHe} {k : Nat} {c : aCe} {m : mCe} (hh : xH E h M) (hc : xC E c m) : xH E (hset h k c) (M.set k m) := by
  refine ⟨by rw [hset_1, List.length_set]; exact hh.1, fun j c' hj => ?_⟩
  rw [hget_set] at hj
  split at hj
  · next hjk =>
    obtain ⟨rfl, hs⟩ := hjk
    cases hj
    obtain ⟨c0, hc0⟩ := Option.isSome_iff_exists.mp hs
    exact ⟨m, by rw [List.getElem?_set_self (hget_lt hh hc0)], hc⟩
  · next hjk =>
    obtain ⟨m', h1, h2⟩ := hh.2 j c' hj
    refine ⟨m', ?_, h2⟩
    have hne : k ≠ j := fun z => hjk ⟨z.symm, by rw [z, hj]; rfl⟩
    rw [List.getElem?_set_ne hne]; exact h1
theorem hpush_ok {E : List Int} {h h' : aHe} {M : mHe} {c : aCe} {m : mCe} (hh : xH E h M) (hc : xC E c m) (hp : hpush h c = some h') : xH E h' (M ++ [m]) := by
  have key : h'.1 = h.1 + 1 ∧ ∀ k c', hget h' k = some c' → (k = h.1 ∧ c' = c) ∨ hget h k = some c' := by
    unfold hpush at hp
    cases hb : Nat.beq (h.1 % 12) 0
    · rw [hb, cond_false] at hp
      split at hp
      · cases hp
      · next l hl =>
        cases hb2 : Nat.beq l.length (h.1 % 12)
        · rw [hb2] at hp; cases hp
        · rw [hb2, cond_true] at hp
          cases hp
          have hll := Nat.eq_of_beq_eq_true hb2
          refine ⟨rfl, fun k c' hk => ?_⟩
          unfold hget at hk ⊢
          simp only at hk
          by_cases hq : h.1 / 12 = k / 12
          · rw [← hq, List.getElem?_set_self (List.getElem?_eq_some_iff.mp hl).1] at hk
            simp only at hk
            rw [← hq, hl]
            simp only
            by_cases hr : k % 12 < l.length
            · rw [List.getElem?_append_left hr] at hk
              exact Or.inr hk
            · rw [List.getElem?_append_right (by omega)] at hk
              have h1 : k % 12 - l.length < 1 := (List.getElem?_eq_some_iff.mp hk).1
              have h2 : k % 12 - l.length = 0 := by omega
              rw [h2] at hk
              cases hk
              left
              exact ⟨by omega, rfl⟩
          · rw [List.getElem?_set_ne hq] at hk
            exact Or.inr hk
    · rw [hb, cond_true] at hp
      have h0 := Nat.eq_of_beq_eq_true hb
      cases hb2 : Nat.beq h.2.length (h.1 / 12)
      · rw [hb2] at hp; cases hp
      · rw [hb2, cond_true] at hp
        cases hp
        have hll := Nat.eq_of_beq_eq_true hb2
        refine ⟨rfl, fun k c' hk => ?_⟩
        unfold hget at hk ⊢
        simp only at hk
        by_cases hq : k / 12 < h.2.length
        · rw [List.getElem?_append_left hq] at hk
          exact Or.inr hk
        · have hq2 : ([[c]] : List (List aCe))[k / 12 - h.2.length]? = (h.2 ++ [[c]])[k / 12]? := by rw [List.getElem?_append_right (by omega)]
          rw [← hq2] at hk
          by_cases hq3 : k / 12 - h.2.length = 0
          · rw [hq3] at hk
            simp only [List.getElem?_cons_zero] at hk
            have h1 : k % 12 < 1 := (List.getElem?_eq_some_iff.mp hk).1
            have h2 : k % 12 = 0 := by omega
            rw [h2] at hk
            cases hk
            left
            exact ⟨by omega, rfl⟩
          · have : ([[c]] : List (List aCe))[k / 12 - h.2.length]? = none := List.getElem?_eq_none (by simp; omega)
            rw [this] at hk
            cases hk
  refine ⟨by rw [key.1, hh.1]; simp, fun k c' hk => ?_⟩
  rcases key.2 k c' hk with ⟨rfl, rfl⟩ | h1
  · refine ⟨m, ?_, hc⟩
    rw [hh.1]; simp
  · obtain ⟨m', h2, h3⟩ := hh.2 k c' h1
    exact ⟨m', by rw [List.getElem?_append_left (hget_lt hh h1)]; exact h2, h3⟩
