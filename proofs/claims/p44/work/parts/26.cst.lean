/-! CONSTRAINTS -/
def bOK (E : List Int) (b : List (Int × Int)) : Prop := E.length = b.length ∧ ∀ (i : Nat) (l u e : Int), b[i]? = some (l, u) → E[i]? = some e → l ≤ e ∧ e ≤ u
theorem bOK_set {E : List Int} {b : List (Int × Int)} {i : Nat} {l u : Int} (hb : bOK E b) (h : ∀ e : Int, E[i]? = some e → l ≤ e ∧ e ≤ u) : bOK E (b.set i (l, u)) := by
  refine ⟨by rw [List.length_set]; exact hb.1, fun j l' u' e hj he => ?_⟩
  by_cases hij : i = j
  · subst hij
    rw [List.getElem?_set] at hj
    split at hj
    · split at hj
      · cases hj; exact h e he
      · cases hj
    · exact absurd rfl ‹_›
  · rw [List.getElem?_set_ne hij] at hj
    exact hb.2 j l' u' e hj he
theorem xE_of {E : List Int} {cs : aC} {b : List (Int × Int)} (hE : xE E cs) (hb : bOK E b) : xE E (b, cs.2) := ⟨hb.1, hE.2.1, hb.2, hE.2.2.2⟩
theorem xE_b {E : List Int} {cs : aC} (hE : xE E cs) : bOK E cs.1 := ⟨hE.1, hE.2.2.1⟩
theorem aPr1_ok {E : List Int} {b : List (Int × Int)} {t : Nat × Nat × Int} (hb : bOK E b) (ht : ∃ e1 e2 : Int, E[t.1]? = some e1 ∧ E[t.2.1]? = some e2 ∧ e1 - e2 ≤ t.2.2) : bOK E (aPr1 b t) := by
  obtain ⟨e1, e2, h1, h2, h3⟩ := ht
  unfold aPr1
  split
  · next l h l2 h2' hi hj =>
    refine bOK_set hb (fun e he => ?_)
    rw [h1] at he
    cases he
    have a1 := hb.2 _ _ _ _ hi h1
    have a2 := hb.2 _ _ _ _ hj h2
    exact ⟨a1.1, imin_glb a1.2 (by omega)⟩
  · exact hb
theorem aPr2_ok {E : List Int} {b : List (Int × Int)} {t : Nat × Nat × Int} (hb : bOK E b) (ht : ∃ e1 e2 : Int, E[t.1]? = some e1 ∧ E[t.2.1]? = some e2 ∧ e1 - e2 ≤ t.2.2) : bOK E (aPr2 b t) := by
  obtain ⟨e1, e2, h1, h2, h3⟩ := ht
  unfold aPr2
  split
  · next l h l2 h2' hi hj =>
    refine bOK_set hb (fun e he => ?_)
    rw [h2] at he
    cases he
    have a1 := hb.2 _ _ _ _ hi h1
    have a2 := hb.2 _ _ _ _ hj h2
    exact ⟨imax_lub a2.1 (by omega), a2.2⟩
  · exact hb
theorem aProp_ok {E : List Int} : ∀ (ds : List (Nat × Nat × Int)) (b : List (Int × Int)), bOK E b → (∀ t ∈ ds, ∃ e1 e2 : Int, E[t.1]? = some e1 ∧ E[t.2.1]? = some e2 ∧ e1 - e2 ≤ t.2.2) → bOK E (aProp ds b) := by
  intro ds
  induction ds with
  | nil => intro b hb _; exact hb
  | cons t ds ih =>
    intro b hb h
    have ht := h t List.mem_cons_self
    exact ih _ (aPr2_ok (aPr1_ok hb ht) ht) (fun t' h' => h t' (List.mem_cons_of_mem _ h'))
theorem aNE_ok {E : List Int} {b : List (Int × Int)} {i : Nat} {e : Int} (hb : bOK E b) (he : E[i]? = some e) : aNE b i = true := by
  unfold aNE
  split
  · next l h hi =>
    have := hb.2 _ _ _ _ hi he
    rw [ile_iff]; omega
  · rfl
theorem aFeas_ok {E : List Int} {cs : aC} (hE : xE E cs) : ∃ cs' ∈ aFeas cs, xE E cs' := by
  unfold aFeas
  split
  · exact ⟨cs, List.mem_cons_self, hE⟩
  · next ds hds =>
    have hb := aProp_ok cs.2 cs.1 (xE_b hE) hE.2.2.2
    unfold aFeas2
    have hall : cs.2.all (fun t => aNE (aProp cs.2 cs.1) t.1 && aNE (aProp cs.2 cs.1) t.2.1) = true := by
      refine List.all_eq_true.mpr fun t ht => ?_
      obtain ⟨e1, e2, h1, h2, -⟩ := hE.2.2.2 t ht
      rw [aNE_ok hb h1, aNE_ok hb h2]; rfl
    rw [hall]
    exact ⟨_, List.mem_cons_self, xE_of hE hb⟩
theorem rLe_ok {E : List Int} {cs : aC} {i : Nat} {e c : Int} (hE : xE E cs) (he : E[i]? = some e) (h : e ≤ c) : ∃ cs' ∈ rLe cs i c, xE E cs' := by
  unfold rLe
  split
  · exact ⟨cs, List.mem_cons_self, hE⟩
  · next l u hi =>
    have hb := hE.2.2.1 _ _ _ _ hi he
    have h1 : ilt c l = false := by
      cases hz : ilt c l
      · rfl
      · have := (ilt_iff _ _).mp hz; omega
    rw [h1, cond_false]
    cases hz : ile u c
    · exact aFeas_ok (xE_of hE (bOK_set (xE_b hE) (fun e' he' => by rw [he] at he'; cases he'; exact ⟨hb.1, h⟩)))
    · exact ⟨cs, List.mem_cons_self, hE⟩
theorem rGe_ok {E : List Int} {cs : aC} {i : Nat} {e c : Int} (hE : xE E cs) (he : E[i]? = some e) (h : c ≤ e) : ∃ cs' ∈ rGe cs i c, xE E cs' := by
  unfold rGe
  split
  · exact ⟨cs, List.mem_cons_self, hE⟩
  · next l u hi =>
    have hb := hE.2.2.1 _ _ _ _ hi he
    have h1 : ilt u c = false := by
      cases hz : ilt u c
      · rfl
      · have := (ilt_iff _ _).mp hz; omega
    rw [h1, cond_false]
    cases hz : ile c l
    · exact aFeas_ok (xE_of hE (bOK_set (xE_b hE) (fun e' he' => by rw [he] at he'; cases he'; exact ⟨h, hb.2⟩)))
    · exact ⟨cs, List.mem_cons_self, hE⟩
theorem aDs_ok {E : List Int} {ds : List (Nat × Nat × Int)} (hd : ∀ t ∈ ds, ∃ e1 e2 : Int, E[t.1]? = some e1 ∧ E[t.2.1]? = some e2 ∧ e1 - e2 ≤ t.2.2) : ∀ (n i j : Nat) (m ei ej : Int), aDs ds n i j = some m → E[i]? = some ei → E[j]? = some ej → ei - ej ≤ m := by
  intro n
  induction n with
  | zero =>
    intro i j m ei ej h hi hj
    unfold aDs at h
    cases hb : Nat.beq i j
    · rw [hb] at h; cases h
    · rw [hb, cond_true] at h
      cases h
      have := Nat.eq_of_beq_eq_true hb
      subst this
      rw [hi] at hj; cases hj; omega
  | succ n ih =>
    intro i j m ei ej h hi hj
    unfold aDs at h
    cases hb : Nat.beq i j
    · rw [hb, cond_false] at h
      have key : ∀ (l : List (Nat × Nat × Int)) (acc : Option Int), (∀ t ∈ l, t ∈ ds) → (∀ a, acc = some a → ei - ej ≤ a) → ∀ m, l.foldl (fun m t => bif Nat.beq t.1 i then (match aDs ds n t.2.1 j with
          | none => m
          | some c => match m with
            | none => some (t.2.2 + c)
            | some m => some (imin m (t.2.2 + c))) else m) acc = some m → ei - ej ≤ m := by
        intro l
        induction l with
        | nil => intro acc _ ha m hm; exact ha m hm
        | cons t l ihl =>
          intro acc hl ha m hm
          rw [List.foldl_cons] at hm
          refine ihl _ (fun t' h' => hl t' (List.mem_cons_of_mem _ h')) ?_ m hm
          intro a hA
          cases hq : Nat.beq t.1 i
          · rw [hq, cond_false] at hA; exact ha a hA
          · rw [hq, cond_true] at hA
            have ht1 := Nat.eq_of_beq_eq_true hq
            obtain ⟨e1, e2, g1, g2, g3⟩ := hd t (hl t List.mem_cons_self)
            rw [ht1, hi] at g1
            cases g1
            split at hA
            · exact ha a hA
            · next c hc =>
              have := ih _ _ _ _ _ hc g2 hj
              split at hA
              · cases hA; omega
              · next m' =>
                cases hA
                exact imin_glb (ha m' rfl) (by omega)
      exact key ds none (fun t h => h) (fun a h => by cases h) m h
    · rw [hb, cond_true] at h
      cases h
      have := Nat.eq_of_beq_eq_true hb
      subst this
      rw [hi] at hj; cases hj; omega
theorem rD_ok {E : List Int} {cs : aC} {i j : Nat} {ei ej c : Int} (hE : xE E cs) (hi : E[i]? = some ei) (hj : E[j]? = some ej) (h : ei - ej ≤ c) : ∃ cs' ∈ rD cs i j c, xE E cs' := by
  have fin : ∃ cs' ∈ aFeas (cs.1, (i, j, c) :: cs.2), xE E cs' := by
    refine aFeas_ok ⟨hE.1, hE.2.1, hE.2.2.1, fun t ht => ?_⟩
    rcases List.mem_cons.mp ht with rfl | ht
    · exact ⟨ei, ej, hi, hj, h⟩
    · exact hE.2.2.2 t ht
  have keep : ∃ cs' ∈ [cs], xE E cs' := ⟨cs, List.mem_cons_self, hE⟩
  have last : ∀ b : Bool, ∃ cs' ∈ (bif b then [cs] else aFeas (cs.1, (i, j, c) :: cs.2)), xE E cs' := by
    intro b
    cases b
    · exact fin
    · exact keep
  unfold rD
  cases hA : aDs cs.2 3 j i with
  | none => exact last _
  | some d =>
    have := aDs_ok hE.2.2.2 3 j i d ej ei hA hj hi
    have hz : ilt (d + c) 0 = false := by
      cases hz : ilt (d + c) 0
      · rfl
      · have := (ilt_iff _ _).mp hz; omega
    simp only [hz, cond_false]
    exact last _
/-- a number that an abstract value stands for -/
def xN (E : List Int) (a : aV) (n : Int) : Prop := match a with
  | (2, _, l, h) => l ≤ n ∧ n ≤ h
  | (3, _, l, h) => l ≤ n ∧ n ≤ h
  | (4, i, c, _) => ∃ e : Int, E[i]? = some e ∧ n = e + c
  | (5, i, c, _) => ∃ e : Int, E[i]? = some e ∧ n = e + c
  | (6, i, _, b) => ∃ e : Int, E[i]? = some e ∧ 0 < b ∧ n = e / b
  | (7, _, _, _) => -2147483648 ≤ n ∧ n ≤ 2147483647
  | _ => False
theorem xN_int {E : List Int} {a : aV} {x : Int32} (h : xV E a (.int x)) : xN E a x.toInt := by
  unfold xV at h
  split at h
  · cases h
  · cases h
  · obtain ⟨y, e, h1⟩ := h; cases e; exact h1
  · obtain ⟨y, e, -⟩ := h; cases e
  · obtain ⟨y, e, e1, he, h2⟩ := h; cases e1; exact ⟨e, he, h2⟩
  · obtain ⟨y, e, e1, -⟩ := h; cases e1
  · obtain ⟨y, e, e1, he, hb, h2⟩ := h; cases e1; exact ⟨e, he, hb, h2⟩
  · obtain ⟨y, e1, -⟩ := h; cases e1; exact ⟨i32_lo x, i32_hi x⟩
  · exact h.elim
theorem xN_long {E : List Int} {a : aV} {x : Int64} (h : xV E a (.long x)) : xN E a x.toInt := by
  unfold xV at h
  split at h
  · cases h
  · cases h
  · obtain ⟨y, e, h1⟩ := h; cases e
  · obtain ⟨y, e, h1⟩ := h; cases e; exact h1
  · obtain ⟨y, e, e1, he, h2⟩ := h; cases e1
  · obtain ⟨y, e, e1, he, h2⟩ := h; cases e1; exact ⟨e, he, h2⟩
  · obtain ⟨y, e, e1, he, hb, h2⟩ := h; cases e1
  · obtain ⟨y, e1, -⟩ := h; cases e1
  · exact h.elim
theorem aBd_N {E : List Int} {cs : aC} {a : aV} {n : Int} (hE : xE E cs) (h : xN E a n) : (aBd cs a).1 ≤ n ∧ n ≤ (aBd cs a).2 := by
  unfold xN at h
  split at h
  · exact h
  · exact h
  · obtain ⟨e, he, h2⟩ := h
    have := aBs_ok hE he
    simp only [aBd]; omega
  · obtain ⟨e, he, h2⟩ := h
    have := aBs_ok hE he
    simp only [aBd]; omega
  · obtain ⟨e, he, hb, h2⟩ := h
    have := aBs_ok hE he
    simp only [aBd]
    rw [h2]
    exact ⟨ediv_mono this.1 hb, ediv_mono this.2 hb⟩
  · exact h
  · exact h.elim
set_option maxHeartbeats 1000000 in
theorem aLe_ok {E : List Int} {cs : aC} {a b : aV} {m n d : Int} (hE : xE E cs) (ha : xN E a m) (hb : xN E b n) (h : m - n ≤ d) : ∃ cs' ∈ aLe cs a b d, xE E cs' := by
  have h1 := aBd_N hE ha
  have h2 := aBd_N hE hb
  have keep : ∃ cs' ∈ [cs], xE E cs' := ⟨cs, List.mem_cons_self, hE⟩
  unfold aLe
  generalize aBd cs a = p at h1 ⊢
  generalize aBd cs b = r at h2 ⊢
  obtain ⟨l1, u1⟩ := p
  obtain ⟨l2, u2⟩ := r
  simp only at h1 h2 ⊢
  have hz : ilt d (l1 - u2) = false := by
    cases hz : ilt d (l1 - u2)
    · rfl
    · have := (ilt_iff _ _).mp hz; omega
  rw [hz, cond_false]
  cases hy : ile (u1 - l2) d
  · simp only [cond_false]
    have two : ∀ (i j : Nat) (c c' : Int), (∃ e : Int, E[i]? = some e ∧ m = e + c) → (∃ e : Int, E[j]? = some e ∧ n = e + c') → ∃ cs' ∈ (bif Nat.beq i j then (bif ile (c - c') d then [cs] else []) else bif ieq l2 u2 then rLe cs i (l2 + d - c) else bif ieq l1 u1 then rGe cs j (l1 - c' - d) else rD cs i j (d + c' - c)), xE E cs' := by
      intro i j c c' hi hj
      obtain ⟨e, he, hm⟩ := hi
      obtain ⟨e', he', hn⟩ := hj
      cases hq : Nat.beq i j
      · simp only [cond_false]
        cases hk : ieq l2 u2
        · simp only [cond_false]
          cases hk1 : ieq l1 u1
          · exact rD_ok hE he he' (by omega)
          · have := (ieq_iff _ _).mp hk1
            exact rGe_ok hE he' (by omega)
        · have := (ieq_iff _ _).mp hk
          exact rLe_ok hE he (by omega)
      · have := Nat.eq_of_beq_eq_true hq
        subst this
        rw [he] at he'
        cases he'
        have : ile (c - c') d = true := (ile_iff _ _).mpr (by omega)
        rw [this]
        exact keep
    have oneL : ∀ (i : Nat) (c : Int), (∃ e : Int, E[i]? = some e ∧ m = e + c) → ∃ cs' ∈ (bif ieq l2 u2 then rLe cs i (l2 + d - c) else [cs]), xE E cs' := by
      intro i c hi
      obtain ⟨e, he, hm⟩ := hi
      cases hk : ieq l2 u2
      · exact keep
      · have := (ieq_iff _ _).mp hk
        exact rLe_ok hE he (by omega)
    have oneR : ∀ (j : Nat) (c : Int), (∃ e : Int, E[j]? = some e ∧ n = e + c) → ∃ cs' ∈ (bif ieq l1 u1 then rGe cs j (l1 - c - d) else [cs]), xE E cs' := by
      intro j c hj
      obtain ⟨e, he, hn⟩ := hj
      cases hk : ieq l1 u1
      · exact keep
      · have := (ieq_iff _ _).mp hk
        exact rGe_ok hE he (by omega)
    have divL : ∀ (i : Nat) (bb : Int), (∃ e : Int, E[i]? = some e ∧ 0 < bb ∧ m = e / bb) → ∃ cs' ∈ (bif ieq l2 u2 then rLe cs i ((l2 + d + 1) * bb - 1) else [cs]), xE E cs' := by
      intro i bb hi
      obtain ⟨e, he, hb0, hm⟩ := hi
      cases hk : ieq l2 u2
      · exact keep
      · have := (ieq_iff _ _).mp hk
        have hlt : e / bb < l2 + d + 1 := by omega
        have := (Int.ediv_lt_iff_lt_mul hb0).mp hlt
        exact rLe_ok hE he (by omega)
    have divR : ∀ (j : Nat) (bb : Int), (∃ e : Int, E[j]? = some e ∧ 0 < bb ∧ n = e / bb) → ∃ cs' ∈ (bif ieq l1 u1 then rGe cs j ((l1 - d) * bb) else [cs]), xE E cs' := by
      intro j bb hj
      obtain ⟨e, he, hb0, hn⟩ := hj
      cases hk : ieq l1 u1
      · exact keep
      · have := (ieq_iff _ _).mp hk
        have hle : l1 - d ≤ e / bb := by omega
        have := (Int.le_ediv_iff_mul_le hb0).mp hle
        exact rGe_ok hE he (by omega)
    split
    · exact two _ _ _ _ ha hb
    · exact two _ _ _ _ ha hb
    · exact oneL _ _ ha
    · exact oneL _ _ ha
    · exact divL _ _ ha
    · exact oneR _ _ hb
    · exact oneR _ _ hb
    · exact divR _ _ hb
    · exact keep
  · exact keep
theorem aEq_ok {E : List Int} {cs : aC} {a b : aV} {m n : Int} (hE : xE E cs) (ha : xN E a m) (hb : xN E b n) (h : m = n) : ∃ cs' ∈ (aLe cs a b 0).flatMap (fun c => aLe c b a 0), xE E cs' := by
  obtain ⟨c1, h1, hE1⟩ := aLe_ok hE ha hb (d := 0) (by omega)
  obtain ⟨c2, h2, hE2⟩ := aLe_ok hE1 hb ha (d := 0) (by omega)
  exact ⟨c2, List.mem_flatMap.mpr ⟨c1, h1, h2⟩, hE2⟩
/-- the branches of a comparison -/
theorem aCd_ok {E : List Int} {cs : aC} {k : Jvm.ClassFile.Cond} {a b : aV} {x y : Int32} (hE : xE E cs) (ha : xV E a (.int x)) (hb : xV E b (.int y)) (h : mCd k x y = true) : ∃ cs' ∈ aCd cs k a b, xE E cs' := by
  have hn := xN_int ha
  have hm := xN_int hb
  cases k <;> simp only [mCd, aCd, beq_iff_eq, bne_iff_ne, ne_eq, decide_eq_true_eq, ge_iff_le, gt_iff_lt, Int32.lt_iff_toInt_lt, Int32.le_iff_toInt_le] at h ⊢
  · exact aEq_ok hE hn hm (by rw [h])
  · have hne : x.toInt ≠ y.toInt := fun z => h (Int32.toInt_inj.mp z)
    rcases Int.lt_or_gt_of_ne hne with hlt | hgt
    · obtain ⟨c, h1, h2⟩ := aLe_ok hE hn hm (d := -1) (by omega)
      exact ⟨c, List.mem_append_left _ h1, h2⟩
    · obtain ⟨c, h1, h2⟩ := aLe_ok hE hm hn (d := -1) (by omega)
      exact ⟨c, List.mem_append_right _ h1, h2⟩
  · exact aLe_ok hE hn hm (by omega)
  · exact aLe_ok hE hm hn (by omega)
  · exact aLe_ok hE hm hn (by omega)
  · exact aLe_ok hE hn hm (by omega)
theorem aCn_ok {k : Jvm.ClassFile.Cond} {x y : Int32} (h : ¬ mCd k x y = true) : mCd (aCn k) x y = true := by
  cases k <;> simp only [mCd, aCn, beq_iff_eq, bne_iff_ne, ne_eq, decide_eq_true_eq, ge_iff_le, gt_iff_lt, Int32.lt_iff_toInt_lt, Int32.le_iff_toInt_le, Decidable.not_not] at h ⊢ <;> first | omega | exact h
