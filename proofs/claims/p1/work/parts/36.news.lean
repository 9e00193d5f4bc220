/-! A LOOP'S NEW NUMBERS -/
theorem aWithin_ok {E : List Int} {cs : aC} {a : aV} {v : Value} {lo hi : Int} (hE : xE E cs) (hv : xV E a v) (hw : aWithin cs a lo hi = true) : ∃ x : Int32, v = .int x ∧ lo ≤ x.toInt ∧ x.toInt ≤ hi := by
  unfold aWithin at hw
  rw [Bool.and_eq_true] at hw
  obtain ⟨x, rfl⟩ := xV_int hw.1 hv
  have h1 := aBd_N hE (xN_int hv)
  have h2 := hw.2
  generalize aBd cs a = p at h1 h2
  obtain ⟨l, u⟩ := p
  simp only at h1 h2
  rw [Bool.and_eq_true, ile_iff, ile_iff] at h2
  exact ⟨x, rfl, by omega, by omega⟩
theorem aImp_ok {E : List Int} {cs : aC} {a b : aV} {m n d : Int} (hE : xE E cs) (ha : xN E a m) (hb : xN E b n) (hi : aImp cs a b d = true) : m - n ≤ d := by
  unfold aImp at hi
  by_cases hd : m - n ≤ d
  · exact hd
  · exfalso
    obtain ⟨c, h1, -⟩ := aLe_ok (d := -d - 1) hE hb ha (by omega)
    split at hi
    · next e => rw [e] at h1; cases h1
    · cases hi
theorem list_set_self {α : Type} {l : List α} {k : Nat} {m : α} (h : l[k]? = some m) : l.set k m = l := by
  apply List.ext_getElem?
  intro i
  rw [List.getElem?_set]
  by_cases hk : k = i
  · subst hk
    rw [if_pos rfl, h]
    have := (List.getElem?_eq_some_iff.mp h).1
    simp [this]
  · rw [if_neg hk]
theorem aGetA_in {cs : aC} {a : Nat × aV × List (Nat × aV)} {lo hi : Int} (h : (aWithin cs a.2.1 lo hi && a.2.2.all (fun q => aWithin cs q.2 lo hi)) = true) (j : Nat) : aWithin cs (aGetA a j) lo hi = true := by
  rw [Bool.and_eq_true] at h
  unfold aGetA
  split
  · next v hv => exact List.all_eq_true.mp h.2 _ (aFound_mem hv)
  · exact h.1
theorem aSetRows_ok {E : List Int} {cs : aC} {lv : List (Nat × aV)} {M : mHe} (hE : xE E cs) : ∀ (ps : List ((Nat × Nat) × Int × Int)) (h h1 : aHe), aSetRows cs lv h ps = some h1 → xH E h M → xH E h1 M := by
  intro ps
  induction ps with
  | nil => intro h h1 hr hh; cases hr; exact hh
  | cons p ps ih =>
    intro h h1 hr hh
    obtain ⟨p, lo, hi⟩ := p
    unfold aSetRows at hr
    split at hr
    · cases hr
    · next c hc =>
      split at hr
      · cases hr
      · next n hn =>
        refine ih _ _ hr ?_
        unfold aRowIn at hn
        split at hn
        · next a ha =>
          have hw := bif_none hn
          cases hb : (aWithin cs a.2.1 lo hi && a.2.2.all (fun q => aWithin cs q.2 lo hi))
          · rw [hb] at hn; cases hn
          · cases hw
            obtain ⟨m, g1, g2⟩ := hh.2 c _ ha
            obtain ⟨n, f, rfl, g3⟩ := xC_arr g2
            rw [← list_set_self g1]
            refine xH_set hh ⟨g3.1, fun j hj => ?_⟩
            obtain ⟨x, g4, g5, g6⟩ := aWithin_ok hE (g3.2 j hj) (aGetA_in hb j)
            cases g4
            exact ⟨_, rfl, g5, g6⟩
        · cases hn
theorem aVals_ok {E : List Int} {cs : aC} {lv : List (Nat × aV)} {clv : List (Nat × Value)} (hE : xE E cs) (hL : xL E lv clv) : ∀ (ls : List (Nat × Int × Int)) (v1 : List aV), aVals cs lv ls = some v1 → ∃ V : List Int, V.length = ls.length ∧ v1.length = ls.length ∧ (∀ e ∈ V, -2147483648 ≤ e ∧ e ≤ 2147483647) ∧ (∀ (j k : Nat) (lo hi : Int), ls[j]? = some (k, lo, hi) → ∃ x : Int32, mlg k clv = some (.int x) ∧ V[j]? = some x.toInt ∧ lo ≤ x.toInt ∧ x.toInt ≤ hi) ∧ (∀ (j : Nat) (a : aV), v1[j]? = some a → ∃ x : Int32, V[j]? = some x.toInt ∧ xV E a (.int x)) := by
  intro ls
  induction ls with
  | nil =>
    intro v1 hr
    cases hr
    exact ⟨[], rfl, rfl, fun e z => (by cases z), fun j k lo hi z => by simp at z, fun j a z => by simp at z⟩
  | cons p ls ih =>
    intro v1 hr
    obtain ⟨k, lo, hi⟩ := p
    unfold aVals at hr
    split at hr
    · next v r hv hrr =>
      cases hb : aWithin cs v lo hi
      · rw [hb] at hr; cases hr
      · rw [hb, cond_true] at hr
        cases hr
        obtain ⟨V, h1, h2, h3, h4, h5⟩ := ih r hrr
        obtain ⟨c, g1, g2⟩ := hL k v hv
        obtain ⟨x, rfl, g3, g4⟩ := aWithin_ok hE g2 hb
        refine ⟨x.toInt :: V, by simp [h1], by simp [h2], fun e he => ?_, fun j k' lo' hi' hj => ?_, fun j a hj => ?_⟩
        · rcases List.mem_cons.mp he with rfl | he
          · exact ⟨i32_lo x, i32_hi x⟩
          · exact h3 e he
        · cases j with
          | zero => simp only [List.getElem?_cons_zero, Option.some.injEq] at hj; cases hj; exact ⟨x, g1, rfl, g3, g4⟩
          | succ j =>
            obtain ⟨y, h6, h7, h8⟩ := h4 j k' lo' hi' (by simpa using hj)
            exact ⟨y, h6, by simpa using h7, h8⟩
        · cases j with
          | zero => simp only [List.getElem?_cons_zero, Option.some.injEq] at hj; cases hj; exact ⟨x, rfl, g2⟩
          | succ j =>
            obtain ⟨y, h6, h7⟩ := h5 j a (by simpa using hj)
            exact ⟨y, by simpa using h6, h7⟩
    · cases hr
theorem aElems_ok {E : List Int} {cs : aC} {h : aHe} {M : mHe} (hE : xE E cs) (hH : xH E h M) : ∀ (ls : List (Nat × Nat × Int × Int)) (v1 : List aV), aElems cs h ls = some v1 → ∃ V : List Int, V.length = ls.length ∧ v1.length = ls.length ∧ (∀ e ∈ V, -2147483648 ≤ e ∧ e ≤ 2147483647) ∧ (∀ (j c k : Nat) (lo hi : Int), ls[j]? = some (c, k, lo, hi) → ∃ x : Int32, mElem M c k = some (.int x) ∧ V[j]? = some x.toInt ∧ lo ≤ x.toInt ∧ x.toInt ≤ hi) ∧ (∀ (j : Nat) (a : aV), v1[j]? = some a → ∃ x : Int32, V[j]? = some x.toInt ∧ xV E a (.int x)) := by
  intro ls
  induction ls with
  | nil =>
    intro v1 hr
    cases hr
    exact ⟨[], rfl, rfl, fun e z => (by cases z), fun j c k lo hi z => by simp at z, fun j a z => by simp at z⟩
  | cons p ls ih =>
    intro v1 hr
    obtain ⟨c, k, lo, hi⟩ := p
    unfold aElems at hr
    split at hr
    · next v r hv hrr =>
      cases hb : aWithin cs v lo hi
      · rw [hb] at hr; cases hr
      · rw [hb, cond_true] at hr
        cases hr
        obtain ⟨V, h1, h2, h3, h4, h5⟩ := ih r hrr
        obtain ⟨w, g1, g2⟩ := xH_elem hH hv
        obtain ⟨x, rfl, g3, g4⟩ := aWithin_ok hE g2 hb
        refine ⟨x.toInt :: V, by simp [h1], by simp [h2], fun e he => ?_, fun j c' k' lo' hi' hj => ?_, fun j a hj => ?_⟩
        · rcases List.mem_cons.mp he with rfl | he
          · exact ⟨i32_lo x, i32_hi x⟩
          · exact h3 e he
        · cases j with
          | zero => simp only [List.getElem?_cons_zero, Option.some.injEq] at hj; cases hj; exact ⟨x, g1, rfl, g3, g4⟩
          | succ j =>
            obtain ⟨y, h6, h7, h8⟩ := h4 j c' k' lo' hi' (by simpa using hj)
            exact ⟨y, h6, by simpa using h7, h8⟩
        · cases j with
          | zero => simp only [List.getElem?_cons_zero, Option.some.injEq] at hj; cases hj; exact ⟨x, rfl, g2⟩
          | succ j =>
            obtain ⟨y, h6, h7⟩ := h5 j a (by simpa using hj)
            exact ⟨y, by simpa using h6, h7⟩
    · cases hr
/-- a side of a difference: its number -/
def nVal (V : List Int) (clv : List (Nat × Value)) (p : Nat × Nat) : Option Int := match p with
  | (0, j) => V[j]?
  | (_, k) => match mlg k clv with
    | some (.int x) => some x.toInt
    | _ => none
def aSdOk (lv : List (Nat × aV)) (p : Nat × Nat) : Prop := match p with
  | (0, _) => True
  | (_, k) => ∃ i z, alg k lv = some (4, i, 0, z)
theorem aNth_ok {E : List Int} {lv : List (Nat × aV)} {clv : List (Nat × Value)} {vs : List aV} {V : List Int} {p : Nat × Nat} {a : aV} (hL : xL E lv clv) (hV : ∀ (j : Nat) (a : aV), vs[j]? = some a → ∃ x : Int32, V[j]? = some x.toInt ∧ xV E a (.int x)) (hs : aSdOk lv p) (ha : aNth vs lv p = some a) : ∃ n, nVal V clv p = some n ∧ xN E a n := by
  obtain ⟨t, k⟩ := p
  cases t with
  | zero =>
    obtain ⟨x, h1, h2⟩ := hV k a ha
    exact ⟨_, h1, xN_int h2⟩
  | succ t =>
    obtain ⟨i, z, h1⟩ := hs
    have ha : alg k lv = some a := ha
    rw [h1] at ha
    cases ha
    obtain ⟨c, h2, h3⟩ := hL k _ h1
    have h4 := h3
    obtain ⟨x, e, rfl, -, -⟩ := h4
    refine ⟨x.toInt, ?_, xN_int h3⟩
    simp only [nVal, h2]
theorem aDiffs_ok {E : List Int} {cs : aC} {lv : List (Nat × aV)} {clv : List (Nat × Value)} {vs : List aV} {V : List Int} (hE : xE E cs) (hL : xL E lv clv) (hV : ∀ (j : Nat) (a : aV), vs[j]? = some a → ∃ x : Int32, V[j]? = some x.toInt ∧ xV E a (.int x)) : ∀ (ds : List ((Nat × Nat) × (Nat × Nat) × Int)), aDiffs cs vs lv ds = true → (∀ t ∈ ds, aSdOk lv t.1 ∧ aSdOk lv t.2.1) → ∀ t ∈ ds, ∃ m n, nVal V clv t.1 = some m ∧ nVal V clv t.2.1 = some n ∧ m - n ≤ t.2.2 := by
  intro ds
  induction ds with
  | nil => intro _ _ t ht; cases ht
  | cons p ds ih =>
    intro hr hs t ht
    obtain ⟨p, q, d⟩ := p
    unfold aDiffs at hr
    rw [Bool.and_eq_true] at hr
    rcases List.mem_cons.mp ht with rfl | ht
    · have h1 := hr.1
      split at h1
      · next x y hx hy =>
        obtain ⟨s1, s2⟩ := hs _ List.mem_cons_self
        obtain ⟨m, g1, g2⟩ := aNth_ok hL hV s1 hx
        obtain ⟨n, g3, g4⟩ := aNth_ok hL hV s2 hy
        exact ⟨m, n, g1, g3, aImp_ok hE g2 g4 h1⟩
      · cases h1
    · exact ih hr.2 (fun t ht => hs t (List.mem_cons_of_mem _ ht)) t ht
theorem aDcs_mem {base : Nat} {lv : List (Nat × aV)} : ∀ (ds : List ((Nat × Nat) × (Nat × Nat) × Int)) (dcs : List (Nat × Nat × Int)), aDcs base lv ds = some dcs → (∀ t ∈ dcs, ∃ s ∈ ds, aAtom base lv s.1 = some t.1 ∧ aAtom base lv s.2.1 = some t.2.1 ∧ s.2.2 = t.2.2) ∧ ∀ s ∈ ds, (aAtom base lv s.1).isSome ∧ (aAtom base lv s.2.1).isSome := by
  intro ds
  induction ds with
  | nil => intro dcs hr; cases hr; exact ⟨fun t ht => (by cases ht), fun s hs => (by cases hs)⟩
  | cons p ds ih =>
    intro dcs hr
    obtain ⟨p, q, d⟩ := p
    unfold aDcs at hr
    split at hr
    · next i j r hi hj hrr =>
      cases hr
      obtain ⟨h1, h2⟩ := ih r hrr
      refine ⟨fun t ht => ?_, fun s hs => ?_⟩
      · rcases List.mem_cons.mp ht with rfl | ht
        · exact ⟨_, List.mem_cons_self, hi, hj, rfl⟩
        · obtain ⟨s, g1, g2⟩ := h1 t ht
          exact ⟨s, List.mem_cons_of_mem _ g1, g2⟩
      · rcases List.mem_cons.mp hs with rfl | hs
        · exact ⟨by rw [hi]; rfl, by rw [hj]; rfl⟩
        · exact h2 s hs
    · cases hr
theorem aAtom_sd {base : Nat} {lv : List (Nat × aV)} {p : Nat × Nat} (h : (aAtom base lv p).isSome) : aSdOk lv p := by
  obtain ⟨t, k⟩ := p
  cases t with
  | zero => trivial
  | succ t =>
    unfold aAtom at h
    simp only at h
    unfold aSdOk
    simp only
    split at h
    · next i z hz => exact ⟨i, z, hz⟩
    · cases h
theorem aKeep_at {lv : List (Nat × aV)} {k : Nat} : ∀ (kp : List Nat) (kept : List (Nat × aV)), aKeep lv kp = some kept → (∀ v, alg k kept = some v → k ∈ kp ∧ alg k lv = some v) ∧ (k ∈ kp → alg k kept = alg k lv) := by
  intro kp
  induction kp with
  | nil => intro kept hr; cases hr; exact ⟨fun v z => (by cases z), fun z => (by cases z)⟩
  | cons j kp ih =>
    intro kept hr
    unfold aKeep at hr
    split at hr
    · next v r hv hrr =>
      cases hr
      obtain ⟨h1, h2⟩ := ih r hrr
      have e : alg k ((j, v) :: r) = bif Nat.beq j k then some v else alg k r := rfl
      rw [e]
      cases hb : Nat.beq j k
      · rw [cond_false]
        refine ⟨fun w hw => ⟨List.mem_cons_of_mem _ (h1 w hw).1, (h1 w hw).2⟩, fun hk => ?_⟩
        rcases List.mem_cons.mp hk with rfl | hk
        · rw [Nat.beq_refl] at hb; cases hb
        · exact h2 hk
      · have := Nat.eq_of_beq_eq_true hb
        subst this
        rw [cond_true]
        exact ⟨fun w hw => by cases hw; exact ⟨List.mem_cons_self, hv⟩, fun _ => hv.symm⟩
    · cases hr
theorem alg_app {k : Nat} {b : List (Nat × aV)} : ∀ (a : List (Nat × aV)), alg k (a ++ b) = match alg k a with
    | some v => some v
    | none => alg k b := by
  intro a
  induction a with
  | nil => rfl
  | cons p a ih =>
    obtain ⟨j, v⟩ := p
    have e : ∀ l, alg k ((j, v) :: l) = bif Nat.beq j k then some v else alg k l := fun _ => rfl
    rw [List.cons_append, e, e]
    cases Nat.beq j k
    · rw [cond_false, cond_false, ih]
    · rfl
theorem aNewL_at {k : Nat} {v : aV} : ∀ (ls : List (Nat × Int × Int)) (j : Nat), alg k (aNewL j ls) = some v → ∃ i lo hi, ls[i]? = some (k, lo, hi) ∧ v = (4, j + i, 0, 0) := by
  intro ls
  induction ls with
  | nil => intro j h; cases h
  | cons p ls ih =>
    intro j h
    obtain ⟨k1, lo1, hi1⟩ := p
    unfold aNewL alg at h
    cases hb : Nat.beq k1 k
    · rw [hb, cond_false] at h
      obtain ⟨i, lo, hi, h1, h2⟩ := ih _ h
      exact ⟨i + 1, lo, hi, by simpa using h1, by rw [h2, show j + 1 + i = j + (i + 1) by omega]⟩
    · rw [hb, cond_true] at h
      cases h
      have := Nat.eq_of_beq_eq_true hb
      subst this
      exact ⟨0, lo1, hi1, rfl, rfl⟩
