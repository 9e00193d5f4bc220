/-! THE TYPED MACHINE: places, facts, regions, types -/
/-- a cell, an atom, an offset, a factor: the place (atom * factor + offset) of the cell; factor 0: the place (offset) -/
abbrev tP : Type := Nat × Nat × Int × Nat
abbrev tF : Type := List (tP × aV)
/-- a region: cell, from, to, modulus, rest -/
abbrev tG : Type := Nat × Int × Int × Nat × Int
def tPeq (p q : tP) : Bool := Nat.beq p.1 q.1 && Nat.beq p.2.1 q.2.1 && ieq p.2.2.1 q.2.2.1 && Nat.beq p.2.2.2 q.2.2.2
def tFind (fs : tF) (p : tP) : Option aV := match fs with
  | [] => none
  | (q, v) :: fs => bif tPeq q p then some v else tFind fs p
def tPl (cs : aC) (c : Nat) (i : aV) : Option tP := match i with
  | (8, j, a, b) => some (c, j, a, b.toNat)
  | _ => match tK cs i with
    | some k => some (c, 0, k, 0)
    | none => match i with
      | (4, j, a, _) => some (c, j, a, 1)
      | _ => none
/-- where a place can be -/
def tPb (cs : aC) (p : tP) : Int × Int := match p with
  | (_, i, a, b) => bif Nat.beq b 0 then (a, a) else (match aBs cs i with
    | (l, h) => (l * Int.ofNat b + a, h * Int.ofNat b + a))
/-- what a place leaves at a modulus, if that is known -/
def tRes (p : Option tP) (b : Nat) : Option Int := bif Nat.beq b 1 then some 0 else (match p with
  | none => none
  | some p => bif Nat.beq (p.2.2.2 % b) 0 then some (p.2.2.1 % Int.ofNat b) else none)
def tHl (vs : List (Int × Int)) : Int × Int := match vs with
  | [] => (-2147483648, 2147483647)
  | [v] => v
  | v :: vs => match tHl vs with
    | (l, h) => (imin v.1 l, imax v.2 h)
def tV1 (vs : List (Int × Int)) (b : Nat) (lo r : Int) : Int × Int := (vs[((r - lo) % Int.ofNat b).toNat]?).getD (-2147483648, 2147483647)
def tRd (regs : List tR) (l h : Int) (p : Option tP) : Int × Int := match regs with
  | [] => (-2147483648, 2147483647)
  | (lo, hi, b, vs) :: regs => bif ile lo l && ile h hi then (match tRes p b with
    | some r => tV1 vs b lo r
    | none => bif Nat.beq vs.length b then tHl vs else (-2147483648, 2147483647)) else tRd regs l h p
def tWr (regs : List tR) (l h : Int) (p : Option tP) (vl vh : Int) : Bool := match regs with
  | [] => true
  | (lo, hi, b, vs) :: regs => (ilt h lo || ilt hi l || (match tRes p b with
    | some r => (match tV1 vs b lo r with
      | (a, z) => ile a vl && ile vh z)
    | none => vs.all (fun q => ile q.1 vl && ile vh q.2))) && tWr regs l h p vl vh
/-- x - y is d at most, whatever the atoms are -/
def tImp (cs : aC) (x y : aV) (d : Int) : Bool := match tLe cs y x (-d - 1) with
  | [] => true
  | _ => false
def tDm (p q : tP) (b : Nat) : Bool := Nat.blt 1 b && (match tRes (some p) b, tRes (some q) b with
  | some r, some s => !(ieq r s)
  | _, _ => false)
/-- places of one cell that are never the same -/
def tDs (cs : aC) (p q : tP) : Bool := (Nat.beq p.2.1 q.2.1 && Nat.beq p.2.2.2 q.2.2.2 && !(ieq p.2.2.1 q.2.2.1)) || tDm p q p.2.2.2 || tDm p q q.2.2.2 || (Nat.beq p.2.2.2 q.2.2.2 && Nat.blt 0 p.2.2.2 && ieq p.2.2.1 q.2.2.1 && (tImp cs (4, p.2.1, 0, 0) (4, q.2.1, 0, 0) (-1) || tImp cs (4, q.2.1, 0, 0) (4, p.2.1, 0, 0) (-1)))
def tDst (cs : aC) (p : Option tP) (l h : Int) (q : tP) : Bool := (match tPb cs q with
  | (ql, qh) => ilt h ql || ilt qh l) || (match p with
  | none => false
  | some p => tDs cs p q)
def tIn (p : Option tP) (l h : Int) (c : Nat) (g : tG) : Bool := match g with
  | (gc, lo, hi, b, r) => Nat.beq gc c && ile lo l && ile h hi && (match tRes p b with
    | some s => ieq s r
    | none => false)
/-- a region never meets a place -/
def tMiss (cs : aC) (g : tG) (q : tP) : Bool := match g with
  | (gc, lo, hi, b, r) => !(Nat.beq gc q.1) || (match tPb cs q with
    | (ql, qh) => ilt qh lo || ilt hi ql) || (match tRes (some q) b with
    | some s => !(ieq s r)
    | none => false)
def tSub (g : tG) (W : List tG) : Bool := W.any (fun w => Nat.beq g.1 w.1 && ile w.2.1 g.2.1 && ile g.2.2.1 w.2.2.1 && ((Nat.beq w.2.2.2.1 1 && ieq w.2.2.2.2 0) || (Nat.beq (g.2.2.2.1 % w.2.2.2.1) 0 && ieq (g.2.2.2.2 % Int.ofNat w.2.2.2.1) w.2.2.2.2) || (ieq g.2.1 g.2.2.1 && ieq (g.2.1 % Int.ofNat w.2.2.2.1) w.2.2.2.2)))
/-! what they mean -/
def yIx (E : List Int) (p : tP) : Option Int := match p with
  | (_, i, a, b) => if b = 0 then some a else (E[i]?).map (fun e => e * Int.ofNat b + a)
def yRd (xs : Nat × (Nat → Int32)) (M : mHe) (c k : Nat) : Option Value := if c = 9999 then (if k < xs.1 then some (.int (xs.2 k)) else none) else (match M[c]? with
  | some (.inl (n, f)) => if k < n then some (.int (f k)) else none
  | some (.inr (_, fs)) => fs[k]?
  | none => none)
def yF1 (xs : Nat × (Nat → Int32)) (E : List Int) (M : mHe) (q : tP × aV) : Prop := ∃ k : Nat, yIx E q.1 = some (k : Int) ∧ ∃ v, yRd xs M q.1.1 k = some v ∧ yV E q.2 v
def yF (xs : Nat × (Nat → Int32)) (E : List Int) (fs : tF) (M : mHe) : Prop := ∀ q ∈ fs, yF1 xs E M q
def yG (g : tG) (c k : Nat) : Prop := g.1 = c ∧ g.2.1 ≤ (k : Int) ∧ (k : Int) ≤ g.2.2.1 ∧ (k : Int) % Int.ofNat g.2.2.2.1 = g.2.2.2.2
def yFr (W : List tG) (M M' : mHe) : Prop := ∀ xs c k, (∀ g ∈ W, ¬ yG g c k) → yRd xs M' c k = yRd xs M c k
theorem yFr_rf (W : List tG) (M : mHe) : yFr W M M := fun _ _ _ _ => rfl
theorem yFr_tr {W : List tG} {M M1 M2 : mHe} (a : yFr W M M1) (b : yFr W M1 M2) : yFr W M M2 := fun xs c k h => (b xs c k h).trans (a xs c k h)
/-- bounds of a row -/
def yT (regs : List tR) (n : Nat) (f : Nat → Int32) : Prop := ∀ r ∈ regs, ∀ k : Nat, k < n → r.1 ≤ (k : Int) → (k : Int) ≤ r.2.1 → (tV1 r.2.2.2 r.2.2.1 r.1 (k : Int)).1 ≤ (f k).toInt ∧ (f k).toInt ≤ (tV1 r.2.2.2 r.2.2.1 r.1 (k : Int)).2
theorem get_app {E X : List Int} {i : Nat} {e : Int} (hi : E[i]? = some e) : (E ++ X)[i]? = some e := by
  rw [List.getElem?_append_left (List.getElem?_eq_some_iff.mp hi).1]; exact hi
theorem yN_app {E X : List Int} {a : aV} {n : Int} (h : yN E a n) : yN (E ++ X) a n := by
  unfold yN at h ⊢
  split at h
  · exact h
  · exact h
  · obtain ⟨e, h1, h2⟩ := h; exact ⟨e, get_app h1, h2⟩
  · obtain ⟨e, h1, h2⟩ := h; exact ⟨e, get_app h1, h2⟩
  · obtain ⟨e, h1, h2⟩ := h; exact ⟨e, get_app h1, h2⟩
  · obtain ⟨e, h1, h2⟩ := h; exact ⟨e, get_app h1, h2⟩
  · obtain ⟨e, e2, h1, h2, h3⟩ := h; exact ⟨e, e2, get_app h1, get_app h2, h3⟩
  · obtain ⟨h0, e, e2, h1, h2, h3⟩ := h; exact ⟨h0, e, e2, get_app h1, get_app h2, h3⟩
  · obtain ⟨h0, e, h1, h2⟩ := h; exact ⟨h0, e, get_app h1, h2⟩
  · obtain ⟨h0, e, h1, h2⟩ := h; exact ⟨h0, e, get_app h1, h2⟩
  · exact h.elim
theorem yI_app {E X : List Int} {a : aV} {x : Int32} (h : yI E a x) : yI (E ++ X) a x := ⟨h.1, yN_app h.2⟩
theorem yV_app {E X : List Int} {a : aV} {v : Value} (h : yV E a v) : yV (E ++ X) a v := by
  unfold yV at h ⊢
  split at h
  · exact h
  · exact ⟨h.1, yN_app h.2⟩
  · exact ⟨h.1, yN_app h.2⟩
  · exact h.elim
theorem yIx_app {E X : List Int} {p : tP} {k : Int} (h : yIx E p = some k) : yIx (E ++ X) p = some k := by
  obtain ⟨c, i, a, b⟩ := p
  unfold yIx at h ⊢
  simp only at h ⊢
  split at h
  · next hb => rw [if_pos hb]; exact h
  · next hb =>
    rw [if_neg hb]
    obtain ⟨e, he, h2⟩ := Option.map_eq_some_iff.mp h
    rw [get_app he, Option.map_some, h2]
theorem yF1_app {xs : Nat × (Nat → Int32)} {E X : List Int} {M : mHe} {q : tP × aV} (h : yF1 xs E M q) : yF1 xs (E ++ X) M q := by
  obtain ⟨k, h1, v, h2, h3⟩ := h
  exact ⟨k, yIx_app h1, v, h2, yV_app h3⟩
theorem yF_app {xs : Nat × (Nat → Int32)} {E X : List Int} {fs : tF} {M : mHe} (h : yF xs E fs M) : yF xs (E ++ X) fs M := fun q hq => yF1_app (h q hq)
theorem tPeq_eq {p q : tP} (h : tPeq p q = true) : p = q := by
  obtain ⟨c, i, a, b⟩ := p
  obtain ⟨c', i', a', b'⟩ := q
  unfold tPeq at h
  simp only [Bool.and_eq_true, ieq_iff] at h
  obtain ⟨⟨⟨h1, h2⟩, h3⟩, h4⟩ := h
  rw [Nat.eq_of_beq_eq_true h1, Nat.eq_of_beq_eq_true h2, h3, Nat.eq_of_beq_eq_true h4]
theorem tFind_mem {fs : tF} {p : tP} {v : aV} (h : tFind fs p = some v) : (p, v) ∈ fs := by
  induction fs with
  | nil => cases h
  | cons q fs ih =>
    obtain ⟨q, w⟩ := q
    unfold tFind at h
    cases hb : tPeq q p
    · rw [hb, cond_false] at h
      exact List.mem_cons_of_mem _ (ih h)
    · rw [hb, cond_true] at h
      cases h
      rw [tPeq_eq hb]
      exact List.mem_cons_self
theorem yF_find {xs : Nat × (Nat → Int32)} {E : List Int} {fs : tF} {M : mHe} {p : tP} {v : aV} (h : yF xs E fs M) (hf : tFind fs p = some v) : yF1 xs E M (p, v) := h _ (tFind_mem hf)
/-- a place is where its index is -/
theorem tPl_ok {E : List Int} {cs : aC} {c : Nat} {i : aV} {n : Int} {p : tP} (hE : xE E cs) (hi : yN E i n) (h : tPl cs c i = some p) : p.1 = c ∧ yIx E p = some n := by
  unfold tPl at h
  split at h
  · cases h
    obtain ⟨e, he, hb, hn⟩ := hi
    refine ⟨rfl, ?_⟩
    unfold yIx
    simp only
    rw [if_neg (by omega), he, Option.map_some, hn]
    have h9 := Int.toNat_of_nonneg (Int.le_of_lt hb)
    exact congrArg some (by rw [show ∀ z : Nat, Int.ofNat z = (z : Int) from fun _ => rfl, h9])
  · split at h
    · next k hk =>
      cases h
      exact ⟨rfl, by unfold yIx; simp only [if_pos]; rw [tK_ok hE hi hk]⟩
    · split at h
      · cases h
        obtain ⟨e, he, hn⟩ := hi
        refine ⟨rfl, ?_⟩
        unfold yIx
        simp only
        rw [if_neg (by omega), he, Option.map_some, hn]
        simp
      · cases h
theorem tPb_ok {E : List Int} {cs : aC} {p : tP} {n : Int} (hE : xE E cs) (h : yIx E p = some n) : (tPb cs p).1 ≤ n ∧ n ≤ (tPb cs p).2 := by
  obtain ⟨c, i, a, b⟩ := p
  unfold yIx at h
  unfold tPb
  simp only at h ⊢
  split at h
  · next hb =>
    subst hb
    cases h
    exact ⟨Int.le_refl _, Int.le_refl _⟩
  · next hb =>
    obtain ⟨e, he, h2⟩ := Option.map_eq_some_iff.mp h
    have h3 := aBs_ok hE he
    have hb' : Nat.beq b 0 = false := by
      cases hc : Nat.beq b 0
      · rfl
      · exact absurd (Nat.eq_of_beq_eq_true hc) hb
    rw [hb', cond_false]
    generalize aBs cs i = r at h3 ⊢
    obtain ⟨l, u⟩ := r
    simp only at h3 ⊢
    have a1 := Int.mul_le_mul_of_nonneg_right h3.1 (Int.natCast_nonneg b)
    have a2 := Int.mul_le_mul_of_nonneg_right h3.2 (Int.natCast_nonneg b)
    rw [← h2]
    have e1 : ∀ z : Int, z * Int.ofNat b = z * (b : Int) := fun z => rfl
    rw [e1, e1, e1]
    omega
theorem tRes_ok {E : List Int} {p : Option tP} {b : Nat} {n r : Int} (hp : ∀ q, p = some q → yIx E q = some n) (h : tRes p b = some r) : n % Int.ofNat b = r := by
  unfold tRes at h
  cases hb : Nat.beq b 1
  · rw [hb, cond_false] at h
    split at h
    · cases h
    · next q =>
      have hq := hp q rfl
      obtain ⟨c, i, a, b'⟩ := q
      cases hm : Nat.beq (b' % b) 0
      · simp only [hm, cond_false] at h; cases h
      · simp only [hm, cond_true, Option.some.injEq] at h
        have hm := Nat.eq_of_beq_eq_true hm
        rw [← h]
        unfold yIx at hq
        simp only at hq
        split at hq
        · cases hq; rfl
        · obtain ⟨e, he, h2⟩ := Option.map_eq_some_iff.mp hq
          rw [← h2]
          obtain ⟨t, ht⟩ : ∃ t, b' = b * t := ⟨b' / b, by have := Nat.div_add_mod b' b; omega⟩
          rw [ht]
          have : e * Int.ofNat (b * t) + a = a + Int.ofNat b * (e * Int.ofNat t) := by
            have e1 : Int.ofNat (b * t) = Int.ofNat b * Int.ofNat t := by simp
            rw [e1, Int.add_comm, ← Int.mul_assoc, ← Int.mul_assoc, Int.mul_comm e]
          rw [this, Int.add_mul_emod_self_left]
  · rw [hb, cond_true] at h
    cases h
    rw [Nat.eq_of_beq_eq_true hb]
    exact Int.emod_one n
theorem tV1_mod {vs : List (Int × Int)} {b : Nat} {lo r n : Int} (h : n % Int.ofNat b = r) : tV1 vs b lo n = tV1 vs b lo r := by
  unfold tV1
  rw [← h, Int.emod_sub_emod]
theorem tHl_ok {vs : List (Int × Int)} {v : Int × Int} (h : v ∈ vs) : (tHl vs).1 ≤ v.1 ∧ v.2 ≤ (tHl vs).2 := by
  induction vs with
  | nil => cases h
  | cons w vs ih =>
    cases vs with
    | nil =>
      rw [List.mem_singleton.mp h]
      exact ⟨Int.le_refl _, Int.le_refl _⟩
    | cons w2 vs =>
      unfold tHl
      generalize tHl (w2 :: vs) = r at ih ⊢
      obtain ⟨l, u⟩ := r
      simp only at ih ⊢
      have m := imin_le w.1 l
      have k := imax_ge w.2 u
      rcases List.mem_cons.mp h with rfl | h
      · omega
      · have := ih h; omega
theorem tV1_mem {vs : List (Int × Int)} {b : Nat} {lo r : Int} (hb : vs.length = b) (h0 : b ≠ 0) : tV1 vs b lo r ∈ vs := by
  unfold tV1
  have h1 : 0 ≤ (r - lo) % Int.ofNat b := Int.emod_nonneg _ (by simp; omega)
  have h2 : (r - lo) % Int.ofNat b < Int.ofNat b := Int.emod_lt_of_pos _ (by simp; omega)
  have h3 : ((r - lo) % Int.ofNat b).toNat < vs.length := by
    rw [hb]
    have : (Int.ofNat b : Int) = (b : Int) := rfl
    omega
  rw [List.getElem?_eq_getElem h3]
  exact List.getElem_mem h3
theorem tRd_ok {E : List Int} {regs : List tR} {n : Nat} {f : Nat → Int32} {l h : Int} {p : Option tP} {k : Nat} (hT : yT regs n f) (hk : k < n) (h1 : l ≤ (k : Int)) (h2 : (k : Int) ≤ h) (hp : ∀ q, p = some q → yIx E q = some (k : Int)) : (tRd regs l h p).1 ≤ (f k).toInt ∧ (f k).toInt ≤ (tRd regs l h p).2 := by
  induction regs with
  | nil => exact ⟨i32_lo _, i32_hi _⟩
  | cons r regs ih =>
    obtain ⟨lo, hi, b, vs⟩ := r
    unfold tRd
    cases hb : (ile lo l && ile h hi)
    · rw [cond_false]
      exact ih (fun r hr => hT r (List.mem_cons_of_mem _ hr))
    · rw [cond_true]
      rw [Bool.and_eq_true, ile_iff, ile_iff] at hb
      have ht := hT _ List.mem_cons_self k hk (by show lo ≤ _; omega) (by show _ ≤ hi; omega)
      simp only at ht
      split
      · next r hr =>
        rw [tV1_mod (tRes_ok hp hr)] at ht
        exact ht
      · next hr =>
        cases hl : Nat.beq vs.length b
        · exact ⟨i32_lo _, i32_hi _⟩
        · rw [cond_true]
          have hl := Nat.eq_of_beq_eq_true hl
          by_cases h0 : b = 0
          · subst h0
            have : vs = [] := List.length_eq_zero_iff.mp hl
            subst this
            exact ⟨i32_lo _, i32_hi _⟩
          · have := tHl_ok (tV1_mem (lo := lo) (r := (k : Int)) hl h0)
            omega
theorem tWr_ok {E : List Int} {n : Nat} {f : Nat → Int32} {l h vl vh : Int} {p : Option tP} {k : Nat} {x : Int32} (h1 : l ≤ (k : Int)) (h2 : (k : Int) ≤ h) (hp : ∀ q, p = some q → yIx E q = some (k : Int)) (hx : vl ≤ x.toInt ∧ x.toInt ≤ vh) : ∀ {regs : List tR}, yT regs n f → tWr regs l h p vl vh = true → yT regs n (upd f k x) := by
  intro regs
  induction regs with
  | nil => intro _ _ r hr; cases hr
  | cons r regs ih =>
    intro hT hw
    obtain ⟨lo, hi, b, vs⟩ := r
    unfold tWr at hw
    rw [Bool.and_eq_true] at hw
    have ih' := ih (fun r hr => hT r (List.mem_cons_of_mem _ hr)) hw.2
    intro r hr j hj hj1 hj2
    rcases List.mem_cons.mp hr with rfl | hr
    · have ht := hT _ List.mem_cons_self j hj hj1 hj2
      by_cases hjk : j = k
      · subst hjk
        have hu : upd f j x j = x := by simp [upd]
        rw [hu]
        simp only at hj1 hj2 ⊢
        have hw1 := hw.1
        rw [Bool.or_eq_true, Bool.or_eq_true, ilt_iff, ilt_iff] at hw1
        rcases hw1 with (hw1 | hw1) | hw1
        · omega
        · omega
        · split at hw1
          · next r hr =>
            rw [tV1_mod (tRes_ok hp hr)]
            generalize tV1 vs b lo r = q at hw1 ⊢
            obtain ⟨a, z⟩ := q
            simp only [Bool.and_eq_true, ile_iff] at hw1 ⊢
            omega
          · unfold tV1
            cases hq : vs[(((j : Int) - lo) % Int.ofNat b).toNat]? with
            | none => exact ⟨i32_lo _, i32_hi _⟩
            | some q =>
              have := List.all_eq_true.mp hw1 q (List.mem_of_getElem? hq)
              rw [Bool.and_eq_true, ile_iff, ile_iff] at this
              show q.1 ≤ _ ∧ _ ≤ q.2
              omega
      · have hu : upd f k x j = f j := by simp [upd, hjk]
        rw [hu]; exact ht
    · exact ih' r hr j hj hj1 hj2
theorem tImp_ok {E : List Int} {cs : aC} {x y : aV} {d m n : Int} (hE : xE E cs) (hx : yN E x m) (hy : yN E y n) (h : tImp cs x y d = true) : m - n ≤ d := by
  unfold tImp at h
  by_cases hd : m - n ≤ d
  · exact hd
  · obtain ⟨c, hc, -⟩ := tLe_ok hE hy hx (d := -d - 1) (by omega)
    split at h
    · next he => rw [he] at hc; cases hc
    · cases h
theorem tDm_ok {E : List Int} {p q : tP} {b : Nat} {n m : Int} (hp : yIx E p = some n) (hq : yIx E q = some m) (h : tDm p q b = true) : n ≠ m := by
  unfold tDm at h
  rw [Bool.and_eq_true] at h
  obtain ⟨-, h⟩ := h
  split at h
  · next r s hr hs =>
    have a1 := tRes_ok (E := E) (n := n) (fun q' e => by cases e; exact hp) hr
    have a2 := tRes_ok (E := E) (n := m) (fun q' e => by cases e; exact hq) hs
    intro e
    subst e
    rw [a1] at a2
    subst a2
    have : ieq r r = true := (ieq_iff r r).mpr rfl
    rw [this] at h
    cases h
  · cases h
theorem tDs_ok {E : List Int} {cs : aC} {p q : tP} {n m : Int} (hE : xE E cs) (hp : yIx E p = some n) (hq : yIx E q = some m) (h : tDs cs p q = true) : n ≠ m := by
  unfold tDs at h
  rw [Bool.or_eq_true, Bool.or_eq_true, Bool.or_eq_true] at h
  rcases h with ((h | h) | h) | h
  · obtain ⟨c, i, a, b⟩ := p
    obtain ⟨c', i', a', b'⟩ := q
    simp only [Bool.and_eq_true, Bool.not_eq_true'] at h
    obtain ⟨⟨h1, h2⟩, h3⟩ := h
    have h1 := Nat.eq_of_beq_eq_true h1
    have h2 := Nat.eq_of_beq_eq_true h2
    subst h1; subst h2
    have h3 : a ≠ a' := fun z => by rw [(ieq_iff _ _).mpr z] at h3; cases h3
    unfold yIx at hp hq
    simp only at hp hq
    split at hp
    · next hb => rw [if_pos hb] at hq; cases hp; cases hq; exact h3
    · next hb =>
      rw [if_neg hb] at hq
      obtain ⟨e, he, e1⟩ := Option.map_eq_some_iff.mp hp
      rw [he] at hq
      simp only [Option.map_some, Option.some.injEq] at hq
      omega
  · exact tDm_ok hp hq h
  · exact tDm_ok hp hq h
  · obtain ⟨c, i, a, b⟩ := p
    obtain ⟨c', i', a', b'⟩ := q
    simp only [Bool.and_eq_true] at h
    obtain ⟨⟨⟨h1, h2⟩, h3⟩, h4⟩ := h
    have h1 := Nat.eq_of_beq_eq_true h1
    subst h1
    have h3 := (ieq_iff _ _).mp h3
    subst h3
    have h2 : 0 < b := by simpa using h2
    unfold yIx at hp hq
    simp only at hp hq
    rw [if_neg (by omega)] at hp hq
    obtain ⟨e, he, e1⟩ := Option.map_eq_some_iff.mp hp
    obtain ⟨e', he', e1'⟩ := Option.map_eq_some_iff.mp hq
    have hne : e ≠ e' := by
      rw [Bool.or_eq_true] at h4
      have ai : yN E (4, i, 0, 0) e := ⟨e, he, by omega⟩
      have aj : yN E (4, i', 0, 0) e' := ⟨e', he', by omega⟩
      rcases h4 with h4 | h4
      · have := tImp_ok hE ai aj h4; omega
      · have := tImp_ok hE aj ai h4; omega
    intro z
    have : e * Int.ofNat b = e' * Int.ofNat b := by omega
    exact hne (Int.eq_of_mul_eq_mul_right (by simp; omega) this)
theorem tDst_ok {E : List Int} {cs : aC} {p : Option tP} {q : tP} {l h n m : Int} (hE : xE E cs) (hp : ∀ z, p = some z → yIx E z = some n) (h1 : l ≤ n) (h2 : n ≤ h) (hq : yIx E q = some m) (hd : tDst cs p l h q = true) : n ≠ m := by
  unfold tDst at hd
  rw [Bool.or_eq_true] at hd
  rcases hd with hd | hd
  · have hb := tPb_ok hE hq
    generalize tPb cs q = r at hd hb
    obtain ⟨a, z⟩ := r
    simp only [Bool.or_eq_true, ilt_iff] at hd hb
    omega
  · split at hd
    · cases hd
    · exact tDs_ok hE (hp _ rfl) hq hd
theorem tIn_ok {E : List Int} {p : Option tP} {l h n : Int} {c : Nat} {g : tG} (hp : ∀ z, p = some z → yIx E z = some n) (h1 : l ≤ n) (h2 : n ≤ h) {k : Nat} (hk : n = (k : Int)) (hi : tIn p l h c g = true) : yG g c k := by
  obtain ⟨gc, lo, hi', b, r⟩ := g
  unfold tIn at hi
  simp only [Bool.and_eq_true, ile_iff] at hi
  obtain ⟨⟨⟨i1, i2⟩, i3⟩, i4⟩ := hi
  refine ⟨Nat.eq_of_beq_eq_true i1, ?_, ?_, ?_⟩
  · show lo ≤ _; omega
  · show _ ≤ hi'; omega
  · split at i4
    · next s hs =>
      have := tRes_ok hp hs
      rw [(ieq_iff _ _).mp i4, hk] at this
      exact this
    · cases i4
theorem tMiss_ok {E : List Int} {cs : aC} {g : tG} {q : tP} {n : Int} {k : Nat} (hE : xE E cs) (hq : yIx E q = some n) (hk : n = (k : Int)) (h : tMiss cs g q = true) : ¬ yG g q.1 k := by
  obtain ⟨gc, lo, hi, b, r⟩ := g
  rintro ⟨g1, g2, g3, g4⟩
  simp only at g1 g2 g3 g4
  unfold tMiss at h
  simp only [Bool.or_eq_true, Bool.not_eq_true'] at h
  rcases h with (h | h) | h
  · rw [g1, Nat.beq_refl] at h; cases h
  · have hb := tPb_ok hE hq
    generalize tPb cs q = z at h hb
    obtain ⟨a, y⟩ := z
    simp only [Bool.or_eq_true, ilt_iff] at h hb
    omega
  · split at h
    · next s hs =>
      have := tRes_ok (E := E) (n := n) (fun z e => by cases e; exact hq) hs
      rw [hk, g4] at this
      rw [← this, (ieq_iff r r).mpr rfl] at h
      cases h
    · cases h
theorem tSub_ok {g : tG} {W : List tG} (h : tSub g W = true) {c k : Nat} (hg : yG g c k) : ∃ w ∈ W, yG w c k := by
  unfold tSub at h
  obtain ⟨w, hw, h1⟩ := List.any_eq_true.mp h
  refine ⟨w, hw, ?_⟩
  obtain ⟨gc, lo, hi, b, r⟩ := g
  obtain ⟨wc, wlo, whi, wb, wr⟩ := w
  obtain ⟨g1, g2, g3, g4⟩ := hg
  simp only [Bool.and_eq_true, Bool.or_eq_true, ile_iff, ieq_iff] at h1 g1 g2 g3 g4
  obtain ⟨⟨⟨a1, a2⟩, a3⟩, a4⟩ := h1
  refine ⟨?_, ?_, ?_, ?_⟩
  · show wc = c
    rw [← Nat.eq_of_beq_eq_true a1]; exact g1
  · show wlo ≤ _; omega
  · show _ ≤ whi; omega
  · show (k : Int) % Int.ofNat wb = wr
    rcases a4 with (a4 | a4) | a4
    · rw [Nat.eq_of_beq_eq_true a4.1, a4.2]; exact Int.emod_one _
    · have hm := Nat.eq_of_beq_eq_true a4.1
      rw [← a4.2, ← g4]
      obtain ⟨t, ht⟩ : ∃ t, b = wb * t := ⟨b / wb, by have := Nat.div_add_mod b wb; omega⟩
      rw [ht]
      have : Int.ofNat (wb * t) = Int.ofNat wb * Int.ofNat t := by simp
      rw [this, Int.emod_emod_of_dvd _ (Int.dvd_mul_right _ _)]
    · rw [show (k : Int) = lo by omega]; exact a4.2
