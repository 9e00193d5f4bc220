/-! THE TYPED MACHINE: stores -/
/-- the facts behind a store -/
def tPt (cs : aC) (fs : tF) (c : Nat) (p : Option tP) (l h : Int) (v : aV) : tF := (match p with
  | none => []
  | some p => [(p, v)]) ++ fs.filter (fun q => !(Nat.beq q.1.1 c) || tDst cs p l h q.1)
/-- a LINE ahead, by a -/
def tNL (cs : aC) (fs : tF) (c i : Nat) : Bool := match tFind fs (c, i, 161, 10) with
  | some (4, j, 0, _) => (match tKd cs fs c j with
    | (a, z) => ieq a 1 && ieq z 1) && tImp cs (4, j, 0, 0) (4, i, 0, 0) (-1) && (match aBs cs j with
    | (l, _) => ile 0 l)
  | _ => false
/-- a CHANGE ahead, by on -/
def tNO (cs : aC) (fs : tF) (c i : Nat) : Bool := match tFind fs (c, i, 164, 10) with
  | some (4, j, 0, _) => (match tKd cs fs c j with
    | (a, z) => ile 2 a && ile z 3) && tImp cs (4, j, 0, 0) (4, i, 0, 0) (-1) && (match aBs cs j with
    | (l, _) => ile 0 l)
  | _ => false
/-- a paper ahead, by b -/
def tNB (cs : aC) (fs : tF) (c i : Nat) : Bool := match tFind fs (c, i, 162, 10) with
  | some v => (match tBd cs v with
    | (l, _) => ile 0 l) && tImp cs v (4, i, 0, 0) (-1)
  | none => false
def tNP2 (cs : aC) (fs : tF) (c i : Nat) (kl kh : Int) : Bool := bif (ile 2 kl && ile kh 5) || (ieq kl 7 && ieq kh 7) then tNL cs fs c i && (bif ieq kl 3 && ieq kh 3 then tNO cs fs c i else ilt kh 3 || ilt 3 kl) else bif ieq kl 6 && ieq kh 6 then tNB cs fs c i else ile kh 1
/-- one more paper -/
def tNP (cs : aC) (fs : tF) (c : Nat) (v : aV) : Bool := match v, tFind fs (c, 0, 5, 0) with
  | (4, i, 1, _), some (4, i2, 0, _) => Nat.beq i i2 && (match tKd cs fs c i with
    | (kl, kh) => tNP2 cs fs c i kl kh)
  | _, _ => false
def tIsN (fs : tF) (c i : Nat) : Bool := match tFind fs (c, 0, 5, 0) with
  | some (4, j, 0, _) => Nat.beq i j
  | _ => false
def tPap (cs : aC) (fs : tF) (p : Option tP) : Bool := match p with
  | none => false
  | some (c, i, a, b) => Nat.beq b 10 && ile 160 a && ile a 169 && (tIsN fs c i || ieq a 163 || ile 166 a || (ieq a 162 && (match tKd cs fs c i with
    | (kl, kh) => ilt kh 6 || ilt 6 kl)))
/-- what may be written where papers and texts lie -/
def tWR (cs : aC) (fs : tF) (c : Nat) (p : Option tP) (l h : Int) (v : aV) : Bool := bif ieq l 5 && ieq h 5 then tNP cs fs c v else (ilt h 5 || ilt 5 l) && (ilt h 6 || ilt 6 l) && (ilt h 1010 || ilt 3409 l) && (ilt h 160 || ilt 559 l || tPap cs fs p)
def tMay (Ws : List (List tG)) (p : Option tP) (l h : Int) (c : Nat) : Bool := Ws.all (fun W => W.any (tIn p l h c))
def tSa1 (cs : aC) (fs : tF) (Ws : List (List tG)) (c n tag : Nat) (regs : List tR) (l h vl vh : Int) (p : Option tP) (v : aV) : Option tF := bif ile 0 l && ilt h (Int.ofNat n) && tWr regs l h p vl vh && (Nat.beq tag 0 || (Nat.beq tag 1 && Nat.beq c 120 && tWR cs fs c p l h v)) && tMay Ws p l h c then some (tPt cs fs c p l h v) else none
/-- a store into an array -/
def tSa (cs : aC) (fs : tF) (Ws : List (List tG)) (c : Nat) (i v : aV) : Option tF := match tTy c with
  | some (.inl (n, tag, regs)) => bif tIsI i && tIsI v then (match tBd cs i, tBd cs v with
    | (l, h), (vl, vh) => tSa1 cs fs Ws c n tag regs l h vl vh (tPl cs c i) v) else none
  | _ => none
/-- a store into a field -/
def tSf (cs : aC) (fs : tF) (Ws : List (List tG)) (c k : Nat) (ft : Nat × Nat × Int × Int) (v : aV) : Option tF := match ft with
  | (0, _, _, _) => none
  | (_, _, lo, hi) => match tBd cs v with
    | (vl, vh) => bif tIsI v && ile lo vl && ile vh hi && tMay Ws (some (c, 0, Int.ofNat k, 0)) (Int.ofNat k) (Int.ofNat k) c then some (tPt cs fs c (some (c, 0, Int.ofNat k, 0)) (Int.ofNat k) (Int.ofNat k) v) else none
theorem upd_same (f : Nat → Int32) (k : Nat) (x : Int32) : upd f k x k = x := by simp [upd]
theorem upd_ne (f : Nat → Int32) {k j : Nat} (x : Int32) (h : j ≠ k) : upd f k x j = f j := by simp [upd, h]
theorem yP_same {f f' : Nat → Int32} (h5 : f' 5 = f 5) (h6 : f' 6 = f 6) (hk : ∀ j o : Nat, (j : Int) < (f 5).toInt → (o = 0 ∨ o = 1 ∨ o = 4) → f' (160 + 10 * j + o) = f (160 + 10 * j + o))
    (hb : ∀ j : Nat, (j : Int) < (f 5).toInt → f' (160 + 10 * j + 2) = f (160 + 10 * j + 2) ∨ yPk f j 0 ≠ 6) (ht : ∀ i : Nat, 1010 ≤ i → i ≤ 3409 → f' i = f i) (hP : yP f) : yP f' := by
  obtain ⟨p1, p2, p3, p4⟩ := hP
  refine ⟨by rw [h5]; exact p1, fun k hkk => ?_, by rw [h6]; exact p3, fun t htt => ?_⟩
  · rw [h5] at hkk
    obtain ⟨a1, a2, a3⟩ := p2 k hkk
    have e0 : ∀ j : Nat, (j : Int) < (f 5).toInt → yPk f' j 0 = yPk f j 0 := fun j hj => by unfold yPk; rw [hk j 0 hj (Or.inl rfl)]
    have e1 : yPk f' k 1 = yPk f k 1 := by unfold yPk; rw [hk k 1 hkk (Or.inr (Or.inl rfl))]
    have e4 : yPk f' k 4 = yPk f k 4 := by unfold yPk; rw [hk k 4 hkk (Or.inr (Or.inr rfl))]
    unfold yPap
    rw [e0 k hkk, e1, e4]
    refine ⟨fun h => ?_, fun h => ?_, fun h => ?_⟩
    · obtain ⟨b1, b2, b3⟩ := a1 h
      rw [e0 _ (by omega)]
      exact ⟨b1, b2, b3⟩
    · rcases hb k hkk with hb | hb
      · have e2 : yPk f' k 2 = yPk f k 2 := by unfold yPk; rw [hb]
        rw [e2]; exact a2 h
      · exact absurd h hb
    · obtain ⟨b1, b2, b3⟩ := a3 h
      rw [e0 _ (by omega)]
      exact ⟨b1, b2, b3⟩
  · obtain ⟨⟨a1, dep, a2, a3⟩, a4⟩ := p4 t htt
    have e3 : f' (1010 + 200 * t + 3) = f (1010 + 200 * t + 3) := ht _ (by omega) (by omega)
    unfold yTx1
    rw [e3, h6]
    refine ⟨⟨a1, dep, a2, fun j hj => ?_⟩, a4⟩
    rw [ht _ (by omega) (by omega), ht _ (by omega) (by omega)]
    exact a3 j hj
theorem yN4 {E : List Int} {i : Nat} {e : Int} (h : E[i]? = some e) : yN E (4, i, 0, 0) e := ⟨e, h, by omega⟩
section TST
variable {xs : Nat × (Nat → Int32)} {E : List Int} {M : mHe} {cs : aC} {fs : tF}
theorem yRd_ne {c c' k : Nat} {m : mCe} (h : c' ≠ c) : yRd xs (M.set c m) c' k = yRd xs M c' k := by
  unfold yRd
  rw [List.getElem?_set_ne (fun z => h z.symm)]
theorem tNL_ok {c i : Nat} {f : Nat → Int32} {e : Int} (hE : xE E cs) (hF : yF xs E fs M) (hc : c < 144) (hM : M[c]? = some (.inl (4000, f))) (hi : E[i]? = some e) (h0 : 0 ≤ e) (h1 : e ≤ 39) (h : tNL cs fs c i = true) : 0 ≤ yPk f e.toNat 1 ∧ yPk f e.toNat 1 < e ∧ yPk f (yPk f e.toNat 1).toNat 0 = 1 := by
  unfold tNL at h
  split at h
  · next j q hj =>
    rw [Bool.and_eq_true, Bool.and_eq_true] at h
    obtain ⟨⟨h2, h3⟩, h4⟩ := h
    have hx := yIx_10 (c := c) (a := 161) hi
    have hv := yF_at (k := 160 + 10 * e.toNat + 1) (yF_find hF hj) hx (by omega) (yRd_arr xs hc hM (by omega))
    obtain ⟨-, a, ha, hav⟩ := hv
    have hj0 := aBs_ok hE ha
    have ha0 : 0 ≤ a := by
      generalize aBs cs j = r at h4 hj0
      obtain ⟨l, u⟩ := r
      simp only [ile_iff] at h4 hj0
      omega
    have hlt := tImp_ok hE (yN4 ha) (yN4 hi) h3
    have hk := tKd_ok hE hF hc hM ha ha0 (by omega)
    have e1 : yPk f e.toNat 1 = a := by unfold yPk; omega
    rw [e1]
    generalize tKd cs fs c j = r at h2 hk
    obtain ⟨l, u⟩ := r
    simp only [Bool.and_eq_true, ieq_iff] at h2 hk
    exact ⟨ha0, by omega, by omega⟩
  · cases h
theorem tNO_ok {c i : Nat} {f : Nat → Int32} {e : Int} (hE : xE E cs) (hF : yF xs E fs M) (hc : c < 144) (hM : M[c]? = some (.inl (4000, f))) (hi : E[i]? = some e) (h0 : 0 ≤ e) (h1 : e ≤ 39) (h : tNO cs fs c i = true) : 0 ≤ yPk f e.toNat 4 ∧ yPk f e.toNat 4 < e ∧ 2 ≤ yPk f (yPk f e.toNat 4).toNat 0 ∧ yPk f (yPk f e.toNat 4).toNat 0 ≤ 3 := by
  unfold tNO at h
  split at h
  · next j q hj =>
    rw [Bool.and_eq_true, Bool.and_eq_true] at h
    obtain ⟨⟨h2, h3⟩, h4⟩ := h
    have hx := yIx_10 (c := c) (a := 164) hi
    have hv := yF_at (k := 160 + 10 * e.toNat + 4) (yF_find hF hj) hx (by omega) (yRd_arr xs hc hM (by omega))
    obtain ⟨-, a, ha, hav⟩ := hv
    have hj0 := aBs_ok hE ha
    have ha0 : 0 ≤ a := by
      generalize aBs cs j = r at h4 hj0
      obtain ⟨l, u⟩ := r
      simp only [ile_iff] at h4 hj0
      omega
    have hlt := tImp_ok hE (yN4 ha) (yN4 hi) h3
    have hk := tKd_ok hE hF hc hM ha ha0 (by omega)
    have e1 : yPk f e.toNat 4 = a := by unfold yPk; omega
    rw [e1]
    generalize tKd cs fs c j = r at h2 hk
    obtain ⟨l, u⟩ := r
    simp only [Bool.and_eq_true, ile_iff] at h2 hk
    exact ⟨ha0, by omega, by omega, by omega⟩
  · cases h
theorem tNB_ok {c i : Nat} {f : Nat → Int32} {e : Int} (hE : xE E cs) (hF : yF xs E fs M) (hc : c < 144) (hM : M[c]? = some (.inl (4000, f))) (hi : E[i]? = some e) (h0 : 0 ≤ e) (h1 : e ≤ 39) (h : tNB cs fs c i = true) : 0 ≤ yPk f e.toNat 2 ∧ yPk f e.toNat 2 < e := by
  unfold tNB at h
  split at h
  · next v hj =>
    rw [Bool.and_eq_true] at h
    obtain ⟨h2, h3⟩ := h
    have hx := yIx_10 (c := c) (a := 162) hi
    have hv := yF_at (k := 160 + 10 * e.toNat + 2) (yF_find hF hj) hx (by omega) (yRd_arr xs hc hM (by omega))
    have hb := tBd_N hE hv.2
    have hlt := tImp_ok hE hv.2 (yN4 hi) h3
    generalize tBd cs v = r at h2 hb
    obtain ⟨l, u⟩ := r
    simp only [ile_iff] at h2 hb
    unfold yPk
    omega
  · cases h
theorem tNP_ok {c : Nat} {f : Nat → Int32} {v : aV} {x : Int32} (hE : xE E cs) (hF : yF xs E fs M) (hc : c < 144) (hM : M[c]? = some (.inl (4000, f))) (hP : yP f) (hx : yI E v x) (h40 : x.toInt ≤ 40) (h05 : 0 ≤ (f 5).toInt) (h : tNP cs fs c v = true) : yP (upd f 5 x) := by
  unfold tNP at h
  split at h
  · next i q1 i2 q2 hn =>
    rw [Bool.and_eq_true] at h
    obtain ⟨h1, h2⟩ := h
    have h1 := Nat.eq_of_beq_eq_true h1
    subst h1
    have hv := yF_at (k := 5) (n := 5) (yF_find hF hn) rfl rfl (yRd_arr xs hc hM (by omega))
    obtain ⟨-, e, he, hev⟩ := hv
    obtain ⟨-, e', he', hxv⟩ := hx
    rw [he] at he'
    cases he'
    have hk := tKd_ok hE hF hc hM he (by omega) (by omega)
    have hl := tNL_ok (c := c) hE hF hc hM he (by omega) (by omega)
    have ho := tNO_ok (c := c) hE hF hc hM he (by omega) (by omega)
    have hb := tNB_ok (c := c) hE hF hc hM he (by omega) (by omega)
    generalize tKd cs fs c i = r at h2 hk
    obtain ⟨kl, kh⟩ := r
    simp only at h2 hk
    have hpap : yPap f e.toNat := by
      unfold tNP2 at h2
      cases hz : ((ile 2 kl && ile kh 5) || (ieq kl 7 && ieq kh 7))
      · rw [hz, cond_false] at h2
        have hz' : ¬ ((2 ≤ kl ∧ kh ≤ 5) ∨ (kl = 7 ∧ kh = 7)) := by
          intro w
          rw [Bool.or_eq_false_iff, Bool.and_eq_false_iff, Bool.and_eq_false_iff] at hz
          rcases w with ⟨w1, w2⟩ | ⟨w1, w2⟩
          · have := (ile_iff _ _).mpr w1
            have := (ile_iff _ _).mpr w2
            rcases hz.1 with hz | hz <;> simp_all
          · have := (ieq_iff _ _).mpr w1
            have := (ieq_iff _ _).mpr w2
            rcases hz.2 with hz | hz <;> simp_all
        cases hy : (ieq kl 6 && ieq kh 6)
        · rw [hy, cond_false] at h2
          have := (ile_iff _ _).mp h2
          exact ⟨fun w => by omega, fun w => by omega, fun w => by omega⟩
        · rw [hy, cond_true] at h2
          rw [Bool.and_eq_true, ieq_iff, ieq_iff] at hy
          have := hb h2
          exact ⟨fun w => by omega, fun w => ⟨this.1, by omega⟩, fun w => by omega⟩
      · rw [hz, cond_true] at h2
        rw [Bool.or_eq_true, Bool.and_eq_true, Bool.and_eq_true, ile_iff, ile_iff, ieq_iff, ieq_iff] at hz
        rw [Bool.and_eq_true] at h2
        have a1 := hl h2.1
        have a2 := h2.2
        cases hy : (ieq kl 3 && ieq kh 3)
        · rw [hy, cond_false, Bool.or_eq_true, ilt_iff, ilt_iff] at a2
          exact ⟨fun w => ⟨a1.1, by omega, a1.2.2⟩, fun w => by omega, fun w => by omega⟩
        · rw [hy, cond_true] at a2
          rw [Bool.and_eq_true, ieq_iff, ieq_iff] at hy
          have := ho a2
          exact ⟨fun w => ⟨a1.1, by omega, a1.2.2⟩, fun w => by omega, fun w => ⟨this.1, by omega, this.2.2⟩⟩
    have same : ∀ k o : Nat, yPk (upd f 5 x) k o = yPk f k o := fun k o => by unfold yPk; rw [upd_ne f x (by omega)]
    obtain ⟨p1, p2, p3, p4⟩ := hP
    refine ⟨by rw [upd_same]; exact h40, fun k hk => ?_, by rw [upd_ne f x (by omega)]; exact p3, fun t ht => ?_⟩
    · rw [upd_same] at hk
      have hpk : yPap f k := by
        by_cases hke : k = e.toNat
        · subst hke; exact hpap
        · exact p2 k (by omega)
      unfold yPap at hpk ⊢
      rw [same, same, same, same, same, same]
      exact hpk
    · have := p4 t ht
      unfold yTx1 at this ⊢
      rw [upd_ne f x (show 1010 + 200 * t + 3 ≠ 5 by omega), upd_ne f x (show 6 ≠ 5 by omega)]
      obtain ⟨⟨b1, dep, b2, b3⟩, b4⟩ := this
      refine ⟨⟨b1, dep, b2, fun j hj => ?_⟩, b4⟩
      rw [upd_ne f x (by omega), upd_ne f x (by omega)]
      exact b3 j hj
  · cases h
theorem tPap_ok {p : Option tP} {c k : Nat} {f : Nat → Int32} (hE : xE E cs) (hF : yF xs E fs M) (hc : c < 144) (hM : M[c]? = some (.inl (4000, f))) (hP : yP f) (hp : ∀ q, p = some q → q.1 = c ∧ yIx E q = some (k : Int)) (h : tPap cs fs p = true) : ∀ j : Nat, (j : Int) < (f 5).toInt → (∀ o : Nat, (o = 0 ∨ o = 1 ∨ o = 4) → 160 + 10 * j + o ≠ k) ∧ (160 + 10 * j + 2 ≠ k ∨ yPk f j 0 ≠ 6) := by
  unfold tPap at h
  split at h
  · cases h
  · next c' i a b =>
    obtain ⟨hq1, hq2⟩ := hp _ rfl
    have hq1 : c' = c := hq1
    subst hq1
    rw [Bool.and_eq_true, Bool.and_eq_true, Bool.and_eq_true, ile_iff, ile_iff] at h
    obtain ⟨⟨⟨h1, h2⟩, h3⟩, h4⟩ := h
    have h1 := Nat.eq_of_beq_eq_true h1
    subst h1
    obtain ⟨e, he, hke⟩ : ∃ e, E[i]? = some e ∧ e * 10 + a = (k : Int) := by
      unfold yIx at hq2
      simp only at hq2
      rw [if_neg (by omega)] at hq2
      obtain ⟨e, he, h2⟩ := Option.map_eq_some_iff.mp hq2
      exact ⟨e, he, h2⟩
    have p1 := hP.1
    intro j hj
    rw [Bool.or_eq_true, Bool.or_eq_true, Bool.or_eq_true, ieq_iff, ile_iff, Bool.and_eq_true, ieq_iff] at h4
    rcases h4 with ((h4 | h4) | h4) | h4
    · unfold tIsN at h4
      split at h4
      · next i2 q2 hn =>
        have h4 := Nat.eq_of_beq_eq_true h4
        subst h4
        have hv := yF_at (k := 5) (n := 5) (yF_find hF hn) rfl rfl (yRd_arr xs hc hM (by omega))
        obtain ⟨-, e', he', hev⟩ := hv
        rw [he] at he'
        cases he'
        exact ⟨fun o ho => by omega, Or.inl (by omega)⟩
      · cases h4
    · exact ⟨fun o ho => by omega, Or.inl (by omega)⟩
    · exact ⟨fun o ho => by omega, Or.inl (by omega)⟩
    · obtain ⟨h4, h5⟩ := h4
      refine ⟨fun o ho => by omega, ?_⟩
      by_cases hjk : 160 + 10 * j + 2 = k
      · right
        have hej : e.toNat = j := by omega
        have hk := tKd_ok hE hF hc hM he (by omega) (by omega)
        rw [hej] at hk
        generalize tKd cs fs c' i = r at h5 hk
        obtain ⟨kl, kh⟩ := r
        simp only [Bool.or_eq_true, ilt_iff] at h5 hk
        omega
      · exact Or.inl hjk
theorem tWR_ok {p : Option tP} {c k : Nat} {f : Nat → Int32} {v : aV} {x : Int32} {l h : Int} (hE : xE E cs) (hF : yF xs E fs M) (hc : c < 144) (hM : M[c]? = some (.inl (4000, f))) (hP : yP f) (hp : ∀ q, p = some q → q.1 = c ∧ yIx E q = some (k : Int)) (h1 : l ≤ (k : Int)) (h2 : (k : Int) ≤ h) (hx : yI E v x) (h40 : k = 5 → x.toInt ≤ 40) (h05 : 0 ≤ (f 5).toInt) (hw : tWR cs fs c p l h v = true) : yP (upd f k x) := by
  unfold tWR at hw
  cases hz : (ieq l 5 && ieq h 5)
  · rw [hz, cond_false, Bool.and_eq_true, Bool.and_eq_true, Bool.and_eq_true, Bool.or_eq_true, Bool.or_eq_true, Bool.or_eq_true, Bool.or_eq_true, Bool.or_eq_true, ilt_iff, ilt_iff, ilt_iff, ilt_iff, ilt_iff, ilt_iff, ilt_iff, ilt_iff] at hw
    obtain ⟨⟨⟨w1, w2⟩, w3⟩, w4⟩ := hw
    have p1 := hP.1
    refine yP_same (upd_ne f x (by omega)) (upd_ne f x (by omega)) (fun j o hj ho => upd_ne f x ?_) (fun j hj => ?_) (fun i hi1 hi2 => upd_ne f x (by omega)) hP
    · rcases w4 with (w4 | w4) | w4
      · omega
      · omega
      · exact (tPap_ok hE hF hc hM hP hp w4 j hj).1 o ho
    · rcases w4 with (w4 | w4) | w4
      · exact Or.inl (upd_ne f x (by omega))
      · exact Or.inl (upd_ne f x (by omega))
      · rcases (tPap_ok hE hF hc hM hP hp w4 j hj).2 with q | q
        · exact Or.inl (upd_ne f x q)
        · exact Or.inr q
  · rw [hz, cond_true] at hw
    rw [Bool.and_eq_true, ieq_iff, ieq_iff] at hz
    have hk : k = 5 := by omega
    subst hk
    exact tNP_ok hE hF hc hM hP hx (h40 rfl) h05 hw
theorem yFr_set {W : List tG} {c k n : Nat} {f : Nat → Int32} {x : Int32} (hM : M[c]? = some (.inl (n, f))) (hg : ∃ g ∈ W, yG g c k) : yFr W M (M.set c (.inl (n, upd f k x))) := by
  intro xs c' j hn
  by_cases hc : c' = c
  · subst hc
    have hjk : j ≠ k := fun z => by
      obtain ⟨g, hg1, hg2⟩ := hg
      rw [← z] at hg2
      exact hn g hg1 hg2
    have hlt := (List.getElem?_eq_some_iff.mp hM).1
    unfold yRd
    rw [List.getElem?_set_self hlt, hM]
    simp only
    rw [upd_ne f x hjk]
  · exact yRd_ne hc
theorem tMay_ok {Ws : List (List tG)} {p : Option tP} {l h : Int} {c k : Nat} (hp : ∀ q, p = some q → yIx E q = some (k : Int)) (h1 : l ≤ (k : Int)) (h2 : (k : Int) ≤ h) (hm : tMay Ws p l h c = true) : ∀ W ∈ Ws, ∃ g ∈ W, yG g c k := by
  intro W hW
  obtain ⟨g, hg, hi⟩ := List.any_eq_true.mp (List.all_eq_true.mp hm W hW)
  exact ⟨g, hg, tIn_ok hp h1 h2 rfl hi⟩
theorem tPt_ok {M' : mHe} {c k : Nat} {p : Option tP} {l h : Int} {v : aV} {w : Value} (hE : xE E cs) (hF : yF xs E fs M) (hp : ∀ q, p = some q → q.1 = c ∧ yIx E q = some (k : Int)) (h1 : l ≤ (k : Int)) (h2 : (k : Int) ≤ h) (hv : yV E v w) (hw : yRd xs M' c k = some w) (hM : ∀ c' j, (c' ≠ c ∨ j ≠ k) → yRd xs M' c' j = yRd xs M c' j) : yF xs E (tPt cs fs c p l h v) M' := by
  intro q hq
  unfold tPt at hq
  rcases List.mem_append.mp hq with hq | hq
  · cases p with
    | none => cases hq
    | some p =>
      rw [List.mem_singleton.mp hq]
      obtain ⟨e1, e2⟩ := hp p rfl
      exact ⟨k, e2, w, by show yRd xs M' p.1 k = _; rw [e1]; exact hw, hv⟩
  · obtain ⟨hq1, hq2⟩ := List.mem_filter.mp hq
    obtain ⟨j, j1, z, j2, j3⟩ := hF q hq1
    refine ⟨j, j1, z, ?_, j3⟩
    rw [hM, j2]
    rw [Bool.or_eq_true, Bool.not_eq_true'] at hq2
    rcases hq2 with hq2 | hq2
    · left
      intro e
      rw [e, Nat.beq_refl] at hq2; cases hq2
    · right
      have := tDst_ok hE (fun q e => (hp q e).2) h1 h2 j1 hq2
      omega
theorem yTy_set {c n tag : Nat} {regs : List tR} {f' : Nat → Int32} (hT : yTy M) (ht : tTy c = some (.inl (n, tag, regs))) (h1 : yT regs n f') (h2 : tag = 1 → yP f') : yTy (M.set c (.inl (n, f'))) := by
  refine ⟨by rw [List.length_set]; exact hT.1, fun c' t ht' => ?_⟩
  by_cases hc : c' = c
  · subst hc
    rw [ht] at ht'
    cases ht'
    obtain ⟨f, hM, -⟩ := yTy_arr hT ht
    have hlt := (List.getElem?_eq_some_iff.mp hM).1
    exact ⟨_, List.getElem?_set_self hlt, rfl, h1, h2⟩
  · obtain ⟨m, m1, m2⟩ := hT.2 c' t ht'
    exact ⟨m, by rw [List.getElem?_set_ne (fun z => hc z.symm)]; exact m1, m2⟩
theorem yTy_setO {c ci : Nat} {fts : List (Nat × Nat × Int × Int)} {vs : List Value} (hT : yTy M) (ht : tTy c = some (.inr (ci, fts))) (h1 : yFs fts vs) : yTy (M.set c (.inr (ci, vs))) := by
  refine ⟨by rw [List.length_set]; exact hT.1, fun c' t ht' => ?_⟩
  by_cases hc : c' = c
  · subst hc
    rw [ht] at ht'
    cases ht'
    obtain ⟨f, hM, -⟩ := yTy_obj hT ht
    have hlt := (List.getElem?_eq_some_iff.mp hM).1
    exact ⟨_, List.getElem?_set_self hlt, rfl, h1⟩
  · obtain ⟨m, m1, m2⟩ := hT.2 c' t ht'
    exact ⟨m, by rw [List.getElem?_set_ne (fun z => hc z.symm)]; exact m1, m2⟩
theorem tTy_120 : tTy 120 = some (.inl (4000, 1, tRegS)) := rfl
theorem tSa_ok {c : Nat} {i v : aV} {x y : Int32} {Ws : List (List tG)} {fs' : tF} (hE : xE E cs) (hF : yF xs E fs M) (hT : yTy M) (hi : yN E i x.toInt) (hv : yN E v y.toInt) (h : tSa cs fs Ws c i v = some fs') :
    ∃ n f, M[c]? = some (.inl (n, f)) ∧ ¬ x < 0 ∧ x.toNatClampNeg < n ∧ yTy (M.set c (.inl (n, upd f x.toNatClampNeg y))) ∧ yF xs E fs' (M.set c (.inl (n, upd f x.toNatClampNeg y))) ∧ ∀ W ∈ Ws, yFr W M (M.set c (.inl (n, upd f x.toNatClampNeg y))) := by
  unfold tSa at h
  split at h
  · next n tag regs ht =>
    have hc := tTy_lt ht
    obtain ⟨f, hM, hf, hP⟩ := yTy_arr hT ht
    have hb := tBd_N hE hi
    have hbv := tBd_N hE hv
    have hpl : ∀ p, tPl cs c i = some p → p.1 = c ∧ yIx E p = some x.toInt := fun p hp => tPl_ok hE hi hp
    generalize tPl cs c i = pp at h hpl
    generalize tBd cs i = bb at h hb
    generalize tBd cs v = bv at h hbv
    obtain ⟨l, u⟩ := bb
    obtain ⟨vl, vu⟩ := bv
    cases hz : (tIsI i && tIsI v)
    · rw [hz] at h; cases h
    · rw [hz, cond_true] at h
      rw [Bool.and_eq_true] at hz
      simp only at h hb hbv
      unfold tSa1 at h
      cases hy : (ile 0 l && ilt u (Int.ofNat n) && tWr regs l u pp vl vu && (Nat.beq tag 0 || (Nat.beq tag 1 && Nat.beq c 120 && tWR cs fs c pp l u v)) && tMay Ws pp l u c)
      · rw [hy] at h; cases h
      · rw [hy, cond_true] at h
        cases h
        rw [Bool.and_eq_true, Bool.and_eq_true, Bool.and_eq_true, Bool.and_eq_true, ile_iff, ilt_iff] at hy
        obtain ⟨⟨⟨⟨y1, y2⟩, y3⟩, y4⟩, y5⟩ := hy
        have hnn : (Int.ofNat n : Int) = (n : Int) := rfl
        have hk : (x.toNatClampNeg : Int) = x.toInt := by
          show ((x.toInt.toNat : Nat) : Int) = x.toInt
          omega
        have hkn : x.toNatClampNeg < n := by omega
        have hx0 : ¬ x < 0 := by
          intro hlt
          rw [Int32.lt_iff_toInt_lt] at hlt
          have : (0 : Int32).toInt = 0 := rfl
          omega
        generalize x.toNatClampNeg = k at hk hkn
        rw [← hk] at hpl hb
        have hq : ∀ q, pp = some q → yIx E q = some (k : Int) := fun q hq => (hpl q hq).2
        have hf' := tWr_ok (n := n) hb.1 hb.2 hq hbv hf y3
        have hP' : tag = 1 → yP (upd f k y) := by
          intro htag
          rw [Bool.or_eq_true, Bool.and_eq_true, Bool.and_eq_true] at y4
          rcases y4 with y4 | ⟨⟨y4, y6⟩, y7⟩
          · have := Nat.eq_of_beq_eq_true y4
            omega
          · have y6 := Nat.eq_of_beq_eq_true y6
            subst y6
            rw [tTy_120] at ht
            cases ht
            have hr5 : ((5, 5, 1, [(0, 40)]) : tR) ∈ tRegS := by decide
            have b5 := hf _ hr5 5 (by omega) (by decide) (by decide)
            have b5' := hf' _ hr5 5 (by omega) (by decide) (by decide)
            have e5 : tV1 [(0, 40)] 1 5 ((5 : Nat) : Int) = (0, 40) := rfl
            rw [e5] at b5 b5'
            refine tWR_ok hE hF hc hM (hP rfl) hpl hb.1 hb.2 ⟨hz.2, hv⟩ (fun e => ?_) b5.1 y7
            subst e
            rw [upd_same] at b5'
            exact b5'.2
        have hlt := (List.getElem?_eq_some_iff.mp hM).1
        refine ⟨n, f, hM, hx0, hkn, yTy_set hT ht hf' hP', ?_, fun W hW => yFr_set hM (tMay_ok hq hb.1 hb.2 y5 W hW)⟩
        refine tPt_ok (w := .int y) hE hF hpl hb.1 hb.2 ⟨hz.2, hv⟩ ?_ (fun c' j hcj => ?_)
        · rw [yRd_arr xs hc (List.getElem?_set_self hlt) hkn, upd_same]
        · by_cases hcc : c' = c
          · subst hcc
            have hjk : j ≠ k := by
              rcases hcj with q | q
              · exact absurd rfl q
              · exact q
            unfold yRd
            rw [List.getElem?_set_self hlt, hM]
            simp only
            rw [upd_ne f y hjk]
          · exact yRd_ne hcc
  · cases h
theorem tSf_ok {c ci k : Nat} {fts : List (Nat × Nat × Int × Int)} {vs : List Value} {ft : Nat × Nat × Int × Int} {v : aV} {y : Int32} {Ws : List (List tG)} {fs' : tF} (hE : xE E cs) (hF : yF xs E fs M) (hT : yTy M) (ht : tTy c = some (.inr (ci, fts))) (hM : M[c]? = some (.inr (ci, vs))) (hvs : yFs fts vs) (hft : fts[k]? = some ft) (hv : yI E v y) (h : tSf cs fs Ws c k ft v = some fs') :
    yTy (M.set c (.inr (ci, vs.set k (.int y)))) ∧ yF xs E fs' (M.set c (.inr (ci, vs.set k (.int y)))) ∧ ∀ W ∈ Ws, yFr W M (M.set c (.inr (ci, vs.set k (.int y)))) := by
  have hc := tTy_lt ht
  have hkl : k < vs.length := by rw [hvs.1]; exact (List.getElem?_eq_some_iff.mp hft).1
  have hlt := (List.getElem?_eq_some_iff.mp hM).1
  unfold tSf at h
  split at h
  · cases h
  · next lo hi hne =>
    have hb := tBd_N hE hv.2
    generalize tBd cs v = bv at h hb
    obtain ⟨vl, vu⟩ := bv
    simp only at h hb
    cases hy : (tIsI v && ile lo vl && ile vu hi && tMay Ws (some (c, 0, Int.ofNat k, 0)) (Int.ofNat k) (Int.ofNat k) c)
    · rw [hy] at h; cases h
    · rw [hy, cond_true] at h
      cases h
      rw [Bool.and_eq_true, Bool.and_eq_true, Bool.and_eq_true, ile_iff, ile_iff] at hy
      obtain ⟨⟨⟨y1, y2⟩, y3⟩, y4⟩ := hy
      have hq : ∀ q, some ((c, 0, Int.ofNat k, 0) : tP) = some q → q.1 = c ∧ yIx E q = some (k : Int) := fun q e => by cases e; exact ⟨rfl, rfl⟩
      have hrd : ∀ c' j, (c' ≠ c ∨ j ≠ k) → yRd xs (M.set c (.inr (ci, vs.set k (.int y)))) c' j = yRd xs M c' j := by
        intro c' j hcj
        by_cases hcc : c' = c
        · subst hcc
          have hjk : j ≠ k := by
            rcases hcj with q | q
            · exact absurd rfl q
            · exact q
          rw [yRd_obj xs hc (List.getElem?_set_self hlt), yRd_obj xs hc hM, List.getElem?_set_ne (fun z => hjk z.symm)]
        · exact yRd_ne hcc
      refine ⟨yTy_setO hT ht ⟨by rw [List.length_set]; exact hvs.1, fun j ft' hj => ?_⟩, ?_, fun W hW => ?_⟩
      · by_cases hjk : j = k
        · subst hjk
          rw [hft] at hj
          cases hj
          refine ⟨_, List.getElem?_set_self hkl, ?_⟩
          unfold yFt
          split
          · next heq => exact (hne (congrArg Prod.fst heq)).elim
          · next heq => cases heq; exact ⟨y, rfl, by omega, by omega⟩
        · rw [List.getElem?_set_ne (fun z => hjk z.symm)]
          exact hvs.2 j ft' hj
      · refine tPt_ok (w := .int y) hE hF hq (Int.le_refl _) (Int.le_refl _) hv ?_ hrd
        rw [yRd_obj xs hc (List.getElem?_set_self hlt)]
        exact List.getElem?_set_self hkl
      · obtain ⟨g, hg1, hg2⟩ := tMay_ok (k := k) (fun q e => (hq q e).2) (Int.le_refl _) (Int.le_refl _) y4 W hW
        intro xs' c' j hn
        by_cases hcj : c' = c ∧ j = k
        · obtain ⟨rfl, rfl⟩ := hcj
          exact absurd hg2 (hn g hg1)
        · by_cases hcc : c' = c
          · subst hcc
            have hjk : j ≠ k := fun z => hcj ⟨rfl, z⟩
            rw [yRd_obj xs' hc (List.getElem?_set_self hlt), yRd_obj xs' hc hM, List.getElem?_set_ne (fun z => hjk z.symm)]
          · exact yRd_ne hcc
end TST
