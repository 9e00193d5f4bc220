/-! THE TYPED MACHINE: a loop's head and back -/
theorem bif_none {α : Type} {b : Bool} {x : Option α} {r : α} (h : (bif b then x else none) = some r) : x = some r := by
  cases b
  · cases h
  · exact h
theorem bif_true {α : Type} {b : Bool} {x : Option α} {r : α} (h : (bif b then x else none) = some r) : b = true := by
  cases b
  · cases h
  · rfl
theorem aSame_eq {a b : aV} (hs : aSame a b = true) : a = b := by
  unfold aSame at hs
  rw [Bool.and_eq_true, Bool.and_eq_true, Bool.and_eq_true, ieq_iff, ieq_iff] at hs
  have e1 := Nat.eq_of_beq_eq_true hs.1.1.1
  have e2 := Nat.eq_of_beq_eq_true hs.1.1.2
  obtain ⟨a1, a2, a3, a4⟩ := a
  obtain ⟨b1, b2, b3, b4⟩ := b
  simp only at e1 e2 hs
  rw [e1, e2, hs.1.2, hs.2]
theorem get_r {E V : List Int} {j : Nat} : (E ++ V)[E.length + j]? = V[j]? := by
  rw [List.getElem?_append_right (by omega)]
  congr 1; omega
theorem get_tr {E Y V : List Int} {i : Nat} {e0 e : Int} (h0 : E[i]? = some e0) (h : (E ++ Y)[i]? = some e) : (E ++ V)[i]? = some e := by
  have h1 := get_app (X := Y) h0
  rw [h] at h1
  cases h1
  exact get_app h0
theorem yN_tr {E Y V : List Int} {a : aV} {n0 n : Int} (h0 : yN E a n0) (h : yN (E ++ Y) a n) : yN (E ++ V) a n := by
  unfold yN at h0 h ⊢
  split at h
  · exact h
  · exact h
  · obtain ⟨e, h1, h2⟩ := h; obtain ⟨e0, g1, -⟩ := h0; exact ⟨e, get_tr g1 h1, h2⟩
  · obtain ⟨e, h1, h2⟩ := h; obtain ⟨e0, g1, -⟩ := h0; exact ⟨e, get_tr g1 h1, h2⟩
  · obtain ⟨e, h1, h2⟩ := h; obtain ⟨e0, g1, -⟩ := h0; exact ⟨e, get_tr g1 h1, h2⟩
  · obtain ⟨e, h1, h2⟩ := h; obtain ⟨e0, g1, -⟩ := h0; exact ⟨e, get_tr g1 h1, h2⟩
  · obtain ⟨e, e2, h1, h2, h3⟩ := h; obtain ⟨e0, e02, g1, g2, -⟩ := h0; exact ⟨e, e2, get_tr g1 h1, get_tr g2 h2, h3⟩
  · obtain ⟨hr, e, e2, h1, h2, h3⟩ := h; obtain ⟨-, e0, e02, g1, g2, -⟩ := h0; exact ⟨hr, e, e2, get_tr g1 h1, get_tr g2 h2, h3⟩
  · obtain ⟨hr, e, h1, h2⟩ := h; obtain ⟨-, e0, g1, -⟩ := h0; exact ⟨hr, e, get_tr g1 h1, h2⟩
  · obtain ⟨hr, e, h1, h2⟩ := h; obtain ⟨-, e0, g1, -⟩ := h0; exact ⟨hr, e, get_tr g1 h1, h2⟩
  · exact h.elim
theorem yV_tr {E Y V : List Int} {a : aV} {c0 c : Value} (h0 : yV E a c0) (h : yV (E ++ Y) a c) : yV (E ++ V) a c := by
  have key : ∀ n : Int, tIsI a = true ∨ aIsL a = true → yN (E ++ Y) a n → yN (E ++ V) a n := by
    intro n hk hn
    unfold yV at h0
    split at h0
    · obtain ⟨k, r, b, c⟩ := a
      have h1 : k = 1 := h0.1
      subst h1
      rcases hk with hk | hk <;> cases hk
    · exact yN_tr h0.2 hn
    · exact yN_tr h0.2 hn
    · exact h0.elim
  unfold yV at h ⊢
  split at h
  · exact h
  · exact ⟨h.1, key _ (Or.inl h.1) h.2⟩
  · exact ⟨h.1, key _ (Or.inr h.1) h.2⟩
  · exact h.elim
theorem tWi_ok {E : List Int} {cs : aC} {a : aV} {v : Value} {lo hi : Int} (hE : xE E cs) (hv : yV E a v) (hw : tWi cs a lo hi = true) : ∃ x : Int32, v = .int x ∧ lo ≤ x.toInt ∧ x.toInt ≤ hi := by
  unfold tWi at hw
  rw [Bool.and_eq_true] at hw
  obtain ⟨x, rfl⟩ := yV_int2 hw.1 hv
  have h1 := tBd_N hE (yNi hv)
  have h2 := hw.2
  generalize tBd cs a = p at h1 h2
  obtain ⟨l, u⟩ := p
  simp only at h1 h2
  rw [Bool.and_eq_true, ile_iff, ile_iff] at h2
  exact ⟨x, rfl, by omega, by omega⟩
/-- new numbers: within bounds, and what they are -/
def tVok (E : List Int) (V : List Int) (v1 : List aV) : Prop := v1.length = V.length ∧ ∀ (j : Nat) (a : aV), v1[j]? = some a → ∃ x : Int32, V[j]? = some x.toInt ∧ yV E a (.int x)
theorem tVok_cons {E V : List Int} {v1 : List aV} {a : aV} {x : Int32} (hv : yV E a (.int x)) (h : tVok E V v1) : tVok E (x.toInt :: V) (a :: v1) := by
  refine ⟨by simp [h.1], fun j b hj => ?_⟩
  cases j with
  | zero => simp only [List.getElem?_cons_zero, Option.some.injEq] at hj; cases hj; exact ⟨x, rfl, hv⟩
  | succ j =>
    obtain ⟨y, h6, h7⟩ := h.2 j b (by simpa using hj)
    exact ⟨y, by simpa using h6, h7⟩
theorem tVok_app {E V V2 : List Int} {v1 v2 : List aV} (h1 : tVok E V v1) (h2 : tVok E V2 v2) : tVok E (V ++ V2) (v1 ++ v2) := by
  refine ⟨by simp [h1.1, h2.1], fun j a hj => ?_⟩
  by_cases hlt : j < v1.length
  · rw [List.getElem?_append_left hlt] at hj
    obtain ⟨x, g1, g2⟩ := h1.2 j a hj
    exact ⟨x, by rw [List.getElem?_append_left (by rw [← h1.1]; exact hlt)]; exact g1, g2⟩
  · rw [List.getElem?_append_right (by omega)] at hj
    obtain ⟨x, g1, g2⟩ := h2.2 _ a hj
    exact ⟨x, by rw [List.getElem?_append_right (by rw [← h1.1]; omega), ← h1.1]; exact g1, g2⟩
def tLok (clv : List (Nat × Value)) (V : List Int) (ls : List (Nat × Int × Int)) : Prop := V.length = ls.length ∧ ∀ (j k : Nat) (lo hi : Int), ls[j]? = some (k, lo, hi) → ∃ x : Int32, mlg k clv = some (.int x) ∧ V[j]? = some x.toInt ∧ lo ≤ x.toInt ∧ x.toInt ≤ hi
def tEok (xs : tXs) (M : mHe) (V : List Int) (ls : List (Nat × Nat × Int × Int)) : Prop := V.length = ls.length ∧ ∀ (j c k : Nat) (lo hi : Int), ls[j]? = some (c, k, lo, hi) → ∃ x : Int32, yRd xs M c k = some (.int x) ∧ V[j]? = some x.toInt ∧ lo ≤ x.toInt ∧ x.toInt ≤ hi
theorem tVals_ok {E : List Int} {cs : aC} {lv : List (Nat × aV)} {clv : List (Nat × Value)} (hE : xE E cs) (hL : yLv E lv clv) : ∀ (ls : List (Nat × Int × Int)) (v1 : List aV), tVals cs lv ls = some v1 → ∃ V : List Int, tLok clv V ls ∧ tVok E V v1 ∧ (∀ e ∈ V, -2147483648 ≤ e ∧ e ≤ 2147483647) := by
  intro ls
  induction ls with
  | nil =>
    intro v1 hr
    cases hr
    exact ⟨[], ⟨rfl, fun j k lo hi z => by simp at z⟩, ⟨rfl, fun j a z => by simp at z⟩, fun e z => (by cases z)⟩
  | cons p ls ih =>
    intro v1 hr
    obtain ⟨k, lo, hi⟩ := p
    unfold tVals at hr
    split at hr
    · next v r hv hrr =>
      have hb := bif_true hr
      have hr := bif_none hr
      cases hr
      obtain ⟨V, h1, h2, h3⟩ := ih r hrr
      obtain ⟨c, g1, g2⟩ := hL k v hv
      obtain ⟨x, rfl, g3, g4⟩ := tWi_ok hE g2 hb
      refine ⟨x.toInt :: V, ⟨by simp [h1.1], fun j k' lo' hi' hj => ?_⟩, tVok_cons g2 h2, fun e he => ?_⟩
      · cases j with
        | zero => simp only [List.getElem?_cons_zero, Option.some.injEq] at hj; cases hj; exact ⟨x, g1, rfl, g3, g4⟩
        | succ j =>
          obtain ⟨y, h6, h7, h8⟩ := h1.2 j k' lo' hi' (by simpa using hj)
          exact ⟨y, h6, by simpa using h7, h8⟩
      · rcases List.mem_cons.mp he with rfl | he
        · exact ⟨i32_lo x, i32_hi x⟩
        · exact h3 e he
    · cases hr
theorem tPty_ok {xs : tXs} {M : mHe} {c k : Nat} {a z : Int} (hT : yTy M) (h : tPty c k = some (a, z)) : ∃ x : Int32, yRd xs M c k = some (.int x) ∧ a ≤ x.toInt ∧ x.toInt ≤ z := by
  unfold tPty at h
  split at h
  · next n tag regs ht =>
    have hb := bif_true h
    have h := bif_none h
    rw [Nat.blt_eq] at hb
    obtain ⟨f, hM, hf, -⟩ := yTy_arr hT ht
    refine ⟨f k, yRd_arr xs (tTy_lt ht) hM hb, ?_⟩
    have := tRd_ok (E := []) (l := Int.ofNat k) (h := Int.ofNat k) (p := some (c, 0, Int.ofNat k, 0)) hf hb (Int.le_refl _) (Int.le_refl _) (fun q e => by cases e; rfl)
    simp only [Option.some.injEq] at h
    rw [h] at this
    exact this
  · next ci fts ht =>
    obtain ⟨fs, hM, hfs⟩ := yTy_obj hT ht
    split at h
    · next q lo hi hft =>
      cases h
      obtain ⟨v, v1, v2⟩ := hfs.2 k _ hft
      obtain ⟨x, rfl, x1, x2⟩ := v2
      exact ⟨x, by rw [yRd_obj xs (tTy_lt ht) hM]; exact v1, x1, x2⟩
    · cases h
  · cases h
theorem tElv_ok {xs : tXs} {E : List Int} {cs : aC} {h : tF} {M : mHe} {fst : Bool} (hE : xE E cs) (hH : yH xs E h M) : ∀ (ls : List (Nat × Nat × Int × Int)) (v1 : List aV), tElv fst cs h ls = some v1 → ∃ V : List Int, tEok xs M V ls ∧ tVok E V v1 ∧ (∀ e ∈ V, -2147483648 ≤ e ∧ e ≤ 2147483647) := by
  intro ls
  induction ls with
  | nil =>
    intro v1 hr
    cases hr
    exact ⟨[], ⟨rfl, fun j c k lo hi z => by simp at z⟩, ⟨rfl, fun j a z => by simp at z⟩, fun e z => (by cases z)⟩
  | cons p ls ih =>
    intro v1 hr
    obtain ⟨c, k, lo, hi⟩ := p
    unfold tElv at hr
    split at hr
    · cases hr
    · next r hrr =>
      obtain ⟨V, h1, h2, h3⟩ := ih r hrr
      have fin : ∀ (a : aV) (x : Int32), v1 = a :: r → yV E a (.int x) → yRd xs M c k = some (.int x) → lo ≤ x.toInt → x.toInt ≤ hi → ∃ V : List Int, tEok xs M V ((c, k, lo, hi) :: ls) ∧ tVok E V v1 ∧ (∀ e ∈ V, -2147483648 ≤ e ∧ e ≤ 2147483647) := by
        intro a x ev g2 g1 g3 g4
        subst ev
        refine ⟨x.toInt :: V, ⟨by simp [h1.1], fun j c' k' lo' hi' hj => ?_⟩, tVok_cons g2 h2, fun e he => ?_⟩
        · cases j with
          | zero => simp only [List.getElem?_cons_zero, Option.some.injEq] at hj; cases hj; exact ⟨x, g1, rfl, g3, g4⟩
          | succ j =>
            obtain ⟨y, h6, h7, h8⟩ := h1.2 j c' k' lo' hi' (by simpa using hj)
            exact ⟨y, h6, by simpa using h7, h8⟩
        · rcases List.mem_cons.mp he with rfl | he
          · exact ⟨i32_lo x, i32_hi x⟩
          · exact h3 e he
      split at hr
      · next v hv =>
        have hb := bif_true hr
        have hr := bif_none hr
        cases hr
        obtain ⟨k', k1, w, k2, k3⟩ := yF_find hH.2 hv
        have hkk : k' = k := by
          have : some (Int.ofNat k) = some (k' : Int) := k1
          have := Option.some.inj this
          have h9 : (Int.ofNat k : Int) = (k : Int) := rfl
          omega
        subst hkk
        obtain ⟨x, rfl, g3, g4⟩ := tWi_ok hE k3 hb
        exact fin v x rfl k3 k2 g3 g4
      · have hr := bif_none hr
        split at hr
        · next a z hp =>
          have hb := bif_true hr
          have hr := bif_none hr
          cases hr
          rw [Bool.and_eq_true, ile_iff, ile_iff] at hb
          obtain ⟨x, x1, x2, x3⟩ := tPty_ok (xs := xs) hH.1 hp
          exact fin _ x rfl (yI_2 E (by omega) (by omega) 0) x1 (by omega) (by omega)
        · cases hr
theorem alg_mem2 {k : Nat} {v : aV} : ∀ {al : List (Nat × aV)}, alg k al = some v → (k, v) ∈ al := by
  intro al
  induction al with
  | nil => intro h; cases h
  | cons q al ih =>
    intro h
    obtain ⟨j, w⟩ := q
    unfold alg at h
    cases hb : Nat.beq j k
    · rw [hb, cond_false] at h
      exact List.mem_cons_of_mem _ (ih h)
    · rw [hb, cond_true] at h
      cases h
      rw [Nat.eq_of_beq_eq_true hb]
      exact List.mem_cons_self
theorem alg_cons (j : Nat) (w : aV) (l : List (Nat × aV)) (k : Nat) : alg k ((j, w) :: l) = bif Nat.beq j k then some w else alg k l := rfl
theorem alg_app {k : Nat} {v : aV} {b : List (Nat × aV)} : ∀ {a : List (Nat × aV)}, alg k (a ++ b) = some v → alg k a = some v ∨ alg k b = some v := by
  intro a
  induction a with
  | nil => intro h; exact Or.inr h
  | cons q a ih =>
    intro h
    obtain ⟨j, w⟩ := q
    rw [List.cons_append, alg_cons] at h
    rw [alg_cons]
    cases hb : Nat.beq j k
    · rw [hb, cond_false] at h
      rw [cond_false]
      exact ih h
    · rw [hb, cond_true] at h
      rw [cond_true]
      exact Or.inl h
theorem tNewL_at {k : Nat} {v : aV} : ∀ (ls : List (Nat × Int × Int)) (j : Nat), alg k (tNewL j ls) = some v → ∃ i lo hi, ls[i]? = some (k, lo, hi) ∧ v = (4, j + i, 0, 0) := by
  intro ls
  induction ls with
  | nil => intro j h; cases h
  | cons p ls ih =>
    intro j h
    obtain ⟨k', lo, hi⟩ := p
    unfold tNewL alg at h
    cases hb : Nat.beq k' k
    · rw [hb, cond_false] at h
      obtain ⟨i, lo', hi', h1, h2⟩ := ih (j + 1) h
      exact ⟨i + 1, lo', hi', by simpa using h1, by rw [h2]; congr 2; omega⟩
    · rw [hb, cond_true] at h
      cases h
      exact ⟨0, lo, hi, by rw [Nat.eq_of_beq_eq_true hb]; rfl, rfl⟩
theorem tNewL_len : ∀ (ls : List (Nat × Int × Int)) (j : Nat), (tNewL j ls).length = ls.length := by
  intro ls
  induction ls with
  | nil => intro j; rfl
  | cons p ls ih => intro j; unfold tNewL; simp [ih]
theorem tNewE_at {q : tP × aV} : ∀ (ls : List (Nat × Nat × Int × Int)) (j : Nat), q ∈ tNewE j ls → ∃ i c k lo hi, ls[i]? = some (c, k, lo, hi) ∧ q = ((c, 0, Int.ofNat k, 0), (4, j + i, 0, 0)) := by
  intro ls
  induction ls with
  | nil => intro j h; cases h
  | cons p ls ih =>
    intro j h
    obtain ⟨c, k, lo, hi⟩ := p
    unfold tNewE at h
    rcases List.mem_cons.mp h with rfl | h
    · exact ⟨0, c, k, lo, hi, rfl, rfl⟩
    · obtain ⟨i, c', k', lo', hi', h1, h2⟩ := ih (j + 1) h
      exact ⟨i + 1, c', k', lo', hi', by simpa using h1, by rw [h2]; congr 3; omega⟩
/-- the differences hold of the new numbers -/
theorem tDiffs_ok {E Y V : List Int} {cs' : aC} {lv lv' : List (Nat × aV)} {clv' : List (Nat × Value)} {vs : List aV} {locs : List (Nat × Int × Int)} {dead : List Nat} (hE' : xE (E ++ Y) cs') (hL' : yLv (E ++ Y) lv' clv') (hV : tVok (E ++ Y) V vs) (hst : ∀ k a, alg k lv = some a → ∃ c, yV E a c)
    (hk : ∀ k, tSide locs dead (1, k) = true → ∀ a, alg k lv = some a → alg k lv' = some a) : ∀ (ds : List ((Nat × Nat) × (Nat × Nat) × Int)) (dcs : List (Nat × Nat × Int)), tDcs E.length lv ds = some dcs → tDiffs cs' vs lv' ds = true → (ds.all (fun q => tSide locs dead q.1 && tSide locs dead q.2.1)) = true → ∀ t ∈ dcs, ∃ e1 e2 : Int, (E ++ V)[t.1]? = some e1 ∧ (E ++ V)[t.2.1]? = some e2 ∧ e1 - e2 ≤ t.2.2 := by
  have side : ∀ (p : Nat × Nat) (i : Nat) (x : aV), tSide locs dead p = true → tAtomP E.length lv p = some i → tNth vs lv' p = some x → tIsI x = true → ∃ n, yN (E ++ Y) x n ∧ (E ++ V)[i]? = some n := by
    intro p i x hs hi hx hI
    obtain ⟨t, k⟩ := p
    cases t with
    | zero =>
      cases hi
      obtain ⟨z, z1, z2⟩ := hV.2 k x hx
      exact ⟨z.toInt, yNi z2, by rw [get_r]; exact z1⟩
    | succ t =>
      have hs' : tSide locs dead (1, k) = true := hs
      have hx' : alg k lv' = some x := hx
      unfold tAtomP at hi
      simp only at hi
      split at hi
      · next j q ha =>
        cases hi
        have h1 := hk k hs' _ ha
        rw [hx'] at h1
        cases h1
        obtain ⟨c, c1⟩ := hst k _ ha
        obtain ⟨c', c2, c3⟩ := hL' k _ hx'
        have c4 := yV_tr (V := V) c1 c3
        obtain ⟨z, rfl⟩ := yV_int2 hI c4
        have z1 := yNi c3
        obtain ⟨e, e1, e2⟩ := yNi c4
        exact ⟨z.toInt, z1, by rw [e1]; congr 1; omega⟩
      · cases hi
  intro ds
  induction ds with
  | nil => intro dcs h _ _ t ht; cases h; cases ht
  | cons q ds ih =>
    intro dcs hd hf hsd t ht
    obtain ⟨p, r, d⟩ := q
    unfold tDcs at hd
    split at hd
    · next i j m hi hj hm =>
      cases hd
      unfold tDiffs at hf
      rw [Bool.and_eq_true] at hf
      rw [List.all_cons, Bool.and_eq_true, Bool.and_eq_true] at hsd
      rcases List.mem_cons.mp ht with rfl | ht
      · have hf1 := hf.1
        split at hf1
        · next x z hx hz =>
          rw [Bool.and_eq_true, Bool.and_eq_true] at hf1
          obtain ⟨n, n1, n2⟩ := side p i x hsd.1.1 hi hx hf1.1.1
          obtain ⟨o, o1, o2⟩ := side r j z hsd.1.2 hj hz hf1.1.2
          exact ⟨n, o, n2, o2, tImp_ok hE' n1 o1 hf1.2⟩
        · cases hf1
      · exact ih m hm hf.2 hsd.2 t ht
    · cases hd
/-- the state at a loop's head -/
def tSt (xs : tXs) (E V : List Int) (L : tLp) (clv : List (Nat × Value)) (M : mHe) : Prop := xE (E ++ V) L.2.2.2.2.2.2 ∧ yLv (E ++ V) L.2.2.2.2.1 clv ∧ yTy M ∧ yF xs (E ++ V) (tNewE (L.2.2.2.1 + L.2.2.1.2.1.length) L.2.2.1.2.2.1) M
def tLess (up : Bool) (e e' : Int) : Prop := bif up then e < e' else e' < e
def tLpOk (xs : tXs) (E : List Int) (L : tLp) : Prop := ∀ (Y : List Int) (cs' : aC) (lv' : List (Nat × aV)) (h' : tF) (clv' : List (Nat × Value)) (M' : mHe), tBack L lv' h' cs' = true → xE (E ++ Y) cs' → yLv (E ++ Y) lv' clv' → yH xs (E ++ Y) h' M' →
  ∃ V, tSt xs E V L clv' M' ∧ ∃ e', V[L.2.2.1.2.2.2.2.1]? = some e' ∧ ∀ e, (E ++ Y)[L.2.2.2.1 + L.2.2.1.2.2.2.2.1]? = some e → tLess L.2.2.1.2.2.2.2.2.1 e e'
theorem tMkS {xs : tXs} {E Y V1 V2 : List Int} {cs cs' : aC} {lv lv' : List (Nat × aV)} {clv' : List (Nat × Value)} {M' : mHe} {v1 v2 : List aV} {locs : List (Nat × Int × Int)} {els : List (Nat × Nat × Int × Int)} {ds : List ((Nat × Nat) × (Nat × Nat) × Int)} {dcs : List (Nat × Nat × Int)} {dead : List Nat} {y pc hi me : Nat} {up : Bool} {W : List tG} {h : tF}
    (hE : xE E cs) (hE' : xE (E ++ Y) cs') (hL' : yLv (E ++ Y) lv' clv') (hT : yTy M') (hst : ∀ k a, alg k lv = some a → ∃ c, yV E a c)
    (hk : ∀ k, tSide locs dead (1, k) = true → ∀ a, alg k lv = some a → alg k lv' = some a) (a1 : tLok clv' V1 locs) (a2 : tVok (E ++ Y) V1 v1) (a3 : ∀ e ∈ V1, -2147483648 ≤ e ∧ e ≤ 2147483647) (b1 : tEok xs M' V2 els) (b2 : tVok (E ++ Y) V2 v2) (b3 : ∀ e ∈ V2, -2147483648 ≤ e ∧ e ≤ 2147483647)
    (hd : tDcs E.length lv ds = some dcs) (hf : tDiffs cs' (v1 ++ v2) lv' ds = true) (hs : (ds.all (fun q => tSide locs dead q.1 && tSide locs dead q.2.1)) = true) :
    tSt xs E (V1 ++ V2) (y, pc, (hi, locs, els, ds, me, up, dead, W), E.length, tNewL E.length locs ++ tKept locs dead lv, h, (cs.1 ++ (locs.map (fun q => (q.2.1, q.2.2)) ++ els.map (fun q => (q.2.2.1, q.2.2.2))), dcs ++ cs.2)) clv' M' := by
  refine ⟨⟨?_, ?_, ?_, ?_⟩, ?_, hT, ?_⟩
  · simp [hE.1, a1.1, b1.1]
  · intro i e he
    by_cases h1 : i < E.length
    · rw [List.getElem?_append_left h1] at he; exact hE.2.1 i e he
    · rw [List.getElem?_append_right (by omega)] at he
      rcases List.mem_append.mp (List.mem_of_getElem? he) with hm | hm
      · exact a3 e hm
      · exact b3 e hm
  · intro i l u e hb he
    simp only at hb
    by_cases h1 : i < E.length
    · rw [List.getElem?_append_left h1] at he
      rw [List.getElem?_append_left (by rw [← hE.1]; exact h1)] at hb
      exact hE.2.2.1 i l u e hb he
    · rw [List.getElem?_append_right (by omega)] at he
      rw [List.getElem?_append_right (by rw [← hE.1]; omega), ← hE.1] at hb
      by_cases h2 : i - E.length < V1.length
      · rw [List.getElem?_append_left h2] at he
        rw [List.getElem?_append_left (by rw [List.length_map, ← a1.1]; exact h2), List.getElem?_map] at hb
        obtain ⟨⟨k, lo, hi⟩, g1, g2⟩ := Option.map_eq_some_iff.mp hb
        cases g2
        obtain ⟨x, -, x2, x3⟩ := a1.2 _ k lo hi g1
        rw [he] at x2
        cases x2; exact x3
      · rw [List.getElem?_append_right (by omega)] at he
        rw [List.getElem?_append_right (by rw [List.length_map, ← a1.1]; omega), List.length_map, ← a1.1, List.getElem?_map] at hb
        obtain ⟨⟨c, k, lo, hi⟩, g1, g2⟩ := Option.map_eq_some_iff.mp hb
        cases g2
        obtain ⟨x, -, x2, x3⟩ := b1.2 _ c k lo hi g1
        rw [he] at x2
        cases x2; exact x3
  · intro t ht
    simp only at ht
    rcases List.mem_append.mp ht with ht | ht
    · exact tDiffs_ok hE' hL' (tVok_app a2 b2) hst hk ds dcs hd hf hs t ht
    · obtain ⟨e1, e2, g1, g2, g3⟩ := hE.2.2.2 t ht
      exact ⟨e1, e2, get_app g1, get_app g2, g3⟩
  · intro k v hkv
    simp only at hkv
    rcases alg_app hkv with h1 | h1
    · obtain ⟨i, lo, hi, g1, g2⟩ := tNewL_at _ _ h1
      obtain ⟨x, x1, x2, -⟩ := a1.2 i k lo hi g1
      have hlt : i < V1.length := by rw [a1.1]; exact (List.getElem?_eq_some_iff.mp g1).1
      refine ⟨_, x1, ?_⟩
      rw [g2]
      exact ⟨rfl, x.toInt, by rw [get_r, List.getElem?_append_left hlt]; exact x2, by omega⟩
    · obtain ⟨g1, g2⟩ := alg_filter (f := fun j => !(locs.any (fun l => Nat.beq l.1 j)) && !(dead.any (fun i => Nat.beq i j))) h1
      have g3 := hk k g2 v g1
      obtain ⟨c, c1, c2⟩ := hL' k v g3
      obtain ⟨c0, c3⟩ := hst k v g1
      exact ⟨c, c1, yV_tr c3 c2⟩
  · intro q hq
    obtain ⟨i, c, k, lo, hi, g1, g2⟩ := tNewE_at _ _ hq
    subst g2
    obtain ⟨x, x1, x2, -⟩ := b1.2 i c k lo hi g1
    refine ⟨k, rfl, .int x, x1, rfl, x.toInt, ?_, by omega⟩
    show (E ++ (V1 ++ V2))[E.length + locs.length + i]? = _
    rw [show E.length + locs.length + i = E.length + (locs.length + i) by omega, get_r, List.getElem?_append_right (by rw [a1.1]; omega), a1.1, show locs.length + i - locs.length = i by omega]
    exact x2
theorem tSameK_ok {kept lv : List (Nat × aV)} (h : tSameK kept lv = true) {k : Nat} {v : aV} (hk : alg k kept = some v) : alg k lv = some v := by
  have h1 := List.all_eq_true.mp h _ (alg_mem2 hk)
  simp only at h1
  split at h1
  · next w hw => rw [hw, aSame_eq h1]
  · cases h1
theorem alg_filter2 {k : Nat} {f : Nat → Bool} {v : aV} (hf : f k = true) : ∀ {al : List (Nat × aV)}, alg k al = some v → alg k (al.filter (fun q => f q.1)) = some v := by
  intro al
  induction al with
  | nil => intro h; cases h
  | cons q al ih =>
    intro h
    obtain ⟨j, w⟩ := q
    rw [List.filter_cons]
    unfold alg at h
    cases hb : Nat.beq j k
    · rw [hb, cond_false] at h
      split
      · unfold alg; rw [hb, cond_false]; exact ih h
      · exact ih h
    · rw [hb, cond_true] at h
      have := Nat.eq_of_beq_eq_true hb
      subst this
      rw [if_pos hf]
      unfold alg
      rw [hb, cond_true]; exact h
set_option maxHeartbeats 1000000 in
theorem tHead_ok {xs : tXs} {E : List Int} {cs : aC} {an : tAn} {y pc : Nat} {lv : List (Nat × aV)} {h : tF} {clv : List (Nat × Value)} {M : mHe} {L : tLp} (hr : tHead an y pc lv h cs = some L) (hE : xE E cs) (hL : yLv E lv clv) (hH : yH xs E h M) :
    (∃ V, tSt xs E V L clv M) ∧ tLpOk xs E L ∧ L.1 = y ∧ L.2.1 = pc ∧ L.2.2.2.1 = E.length ∧ ∃ hf, L.2.2.2.2.2.1 = tNewE (E.length + L.2.2.1.2.1.length) L.2.2.1.2.2.1 ++ hf ∧ ∀ q ∈ hf, yF1 xs E M q ∧ ∀ k : Nat, yIx E q.1 = some (k : Int) → ∀ g ∈ L.2.2.1.2.2.2.2.2.2.2, ¬ yG g q.1.1 k := by
  obtain ⟨hi, locs, els, ds, me, up, dead, W⟩ := an
  unfold tHead at hr
  simp only at hr
  split at hr
  · next v1 v2 dcs hv1 hv2 hdcs =>
    have hb := bif_true hr
    have hr := bif_none hr
    cases hr
    rw [Bool.and_eq_true] at hb
    obtain ⟨b1, b2⟩ := hb
    have hEl : E.length = cs.1.length := hE.1
    have nil : E = E ++ [] := by simp
    have hst : ∀ k a, alg k lv = some a → ∃ c, yV E a c := fun k a hk => by
      obtain ⟨c, -, c2⟩ := hL k a hk
      exact ⟨c, c2⟩
    rw [← hEl] at hdcs ⊢
    refine ⟨?_, ?_, rfl, rfl, rfl, h.filter (fun q => tMissW cs W q.1), rfl, fun q hq => ?_⟩
    · obtain ⟨V1, p1, p2, p3⟩ := tVals_ok hE hL locs v1 hv1
      obtain ⟨V2, q1, q2, q3⟩ := tElv_ok hE hH els v2 hv2
      refine ⟨V1 ++ V2, ?_⟩
      exact tMkS (Y := []) hE (by rw [← nil]; exact hE) (by rw [← nil]; exact hL) hH.1 hst (fun k _ a ha => ha) p1 (by rw [← nil]; exact p2) p3 q1 (by rw [← nil]; exact q2) q3 hdcs b1 b2
    · intro Y cs' lv' h' clv' M' hbk hE' hL' hH'
      unfold tBack at hbk
      simp only at hbk
      split at hbk
      · next v1' v2' hv1' hv2' =>
        rw [Bool.and_eq_true, Bool.and_eq_true] at hbk
        obtain ⟨⟨d1, d2⟩, d3⟩ := hbk
        obtain ⟨V1, p1, p2, p3⟩ := tVals_ok hE' hL' locs v1' hv1'
        obtain ⟨V2, q1, q2, q3⟩ := tElv_ok hE' hH' els v2' hv2'
        have hdr : (tNewL E.length locs ++ tKept locs dead lv).drop locs.length = tKept locs dead lv := by
          rw [← tNewL_len locs E.length, List.drop_left]
        rw [hdr] at d1
        have hk : ∀ k, tSide locs dead (1, k) = true → ∀ a, alg k lv = some a → alg k lv' = some a := by
          intro k hs a ha
          exact tSameK_ok d1 (alg_filter2 (f := fun j => !(locs.any (fun l => Nat.beq l.1 j)) && !(dead.any (fun i => Nat.beq i j))) hs ha)
        refine ⟨V1 ++ V2, tMkS hE hE' hL' hH'.1 hst hk p1 p2 p3 q1 q2 q3 hdcs d2 b2, ?_⟩
        split at d3
        · next x hx =>
          obtain ⟨w, c1, c2⟩ := (tVok_app p2 q2).2 me x hx
          refine ⟨w.toInt, c1, fun e he => ?_⟩
          have hat : yN (E ++ Y) (4, E.length + me, 0, 0) e := ⟨e, he, by omega⟩
          unfold tLess
          simp only
          revert d3
          cases up
          · simp only [cond_false]
            intro d3
            have := tImp_ok hE' (yNi c2) hat d3
            omega
          · simp only [cond_true]
            intro d3
            have := tImp_ok hE' hat (yNi c2) d3
            omega
        · cases d3
      · cases hbk
    · obtain ⟨hq1, hq2⟩ := List.mem_filter.mp hq
      refine ⟨hH.2 q hq1, fun k hk g hg => ?_⟩
      exact tMiss_ok hE hk rfl (List.all_eq_true.mp hq2 g hg)
  · cases hr
