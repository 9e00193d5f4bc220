/-! THE LAW FROM ITS FIRST ROW: the class and the reference, newly made -/
section RAWN
variable {sc : Option (Nat × (Nat → Int32))} {d y pc : Nat} {lv : List (Nat × Value)} {st : List Value} {M M' : mHe} {q : mMd}
theorem e_new {idx ci : Nat} {v : Int} {x : Nat × Nat × Nat} {cl : vw_C} {ty : Nat → FieldType} (hT : aTabOk) (hq : mjM y = some q) (he : aTab y pc = some (.new idx, 3, 10, ci, v, x)) (hcl : vwCl[ci]? = some cl) (hty : mjTys[ci]? = some ty) : mTo sc d (y, pc, lv, st) M (y, pc + 3, lv, .ref (9 + M.length) :: st) (M ++ [.inr (ci, (List.range cl.2.2).map (fun j => defaultValue (ty j)))]) := by
  refine mTo_step ?_
  obtain ⟨h1, h2⟩ := e_eq (sc := sc) (d := d) (lv := lv) (st := st) (M := M) hT hq he
  rw [h1]
  obtain ⟨o1, o2, hR, -⟩ := aChk_R (k := idx) rfl h2 (by simp)
  refine mOr_r (fun s hs => by have := mG1 hs; cases this) (mOr_r (fun s hs => by have := mG2 hs; cases this) (mOr_r (fun s hs => by have := mG3 hs; cases this) (mOr_r (fun s hs => by have := mG4 hs; cases this) (mOr_l ?_))))
  simp only [mOp5, hR, hcl, hty, if_true, mGo]
theorem e_calli {idx y' np mx oc r N1 : Nat} {v : Int} {rest : List Value} {res : Option Value} (hT : aTabOk) (hq : mjM y = some q) (he : aTab y pc = some (.invokespecial idx, 3, 4, y', v, np, mx, oc)) (hd : st.drop np = .ref r :: rest) (h9 : np ≤ st.length) (hcat : mCat rest ≤ 8) (hsl : mCat (.ref r :: (st.take np).reverse) ≤ mx) (hmx : mx ≤ 100 ∧ oc ≠ 13)
    (hc : mRun none N1 d (y', 0, lv_args 0 (.ref r :: (st.take np).reverse), []) M = some (res, M')) : mTo sc (d + 1) (y, pc, lv, st) M (y, pc + 3, lv, res.toList ++ rest) M' := by
  obtain ⟨h1, h2⟩ := e_eq (sc := sc) (d := d + 1) (lv := lv) (st := st) (M := M) hT hq he
  obtain ⟨o1, o2, hR, hC⟩ := aChk_R (k := idx) rfl h2 (by simp)
  obtain ⟨hnp, q2, hq1, hq2, hq3⟩ := hC (by show 1 ≤ 4; omega) (by show 4 ≤ 5; omega)
  have hnp : mNp y' = some np := hnp
  have hq1 : mjM y' = some q2 := hq1
  have hq2 : q2.2.2.1 = mx := hq2
  have hq3 : q2.2.2.2.2 = oc := hq3
  refine mTo_call (y := y') (vs := .ref r :: (st.take np).reverse) (fr' := (y, pc + 3, lv, rest)) ?_ hc
  rw [h1]
  refine mOr_r (fun s hs => by have := mG1 hs; cases this) (mOr_r (fun s hs => by have := mG2 hs; cases this) (mOr_r (fun s hs => by have := mG3 hs; cases this) (mOr_r (fun s hs => by have := mG4 hs; cases this) (mOr_r (fun s hs => by have := mG5 hs; cases this) (mOr_l ?_)))))
  simp only [mOp6, if_true, hR, hnp, hd]
  rw [if_pos h9]
  unfold mCall
  rw [hq1]
  simp only
  rw [if_pos ⟨hcat, by rw [lg_sl_cat, hq2]; exact hsl, by rw [hq2]; exact hmx.1, by rw [hq3]; exact hmx.2⟩]
theorem e_dup {r : Nat × Nat × Nat × Int × Nat × Nat × Nat} {a : Nat} (hT : aTabOk) (hq : mjM y = some q) (he : aTab y pc = some (.dup, r)) (h1 : r.1 = 1) : mTo sc d (y, pc, lv, .ref a :: st) M (y, pc + 1, lv, .ref a :: .ref a :: st) M :=
  e_st hT hq he (mOr_r (fun s hs => by have := mG1 hs; cases this) (mOr_l (by simp only [mOp2, h1, if_true, Value.category, and_self, mGo])))
theorem e_as1 {k : Fin 4} {r : Nat × Nat × Nat × Int × Nat × Nat × Nat} {a : Nat} (hT : aTabOk) (hq : mjM y = some q) (he : aTab y pc = some (.astore_n k, r)) (h1 : r.1 = 1 ∧ (k : Nat) < q.2.2.1) : mTo sc d (y, pc, lv, .ref a :: st) M (y, pc + 1, mlp k (.ref a) lv, st) M :=
  e_st hT hq he (mOr_r (fun s hs => by have := mG1 hs; cases this) (mOr_l (by simp only [mOp2, h1.1, h1.2, and_self, if_true, mGo])))
theorem e_ic {k : Int} {r : Nat × Nat × Nat × Int × Nat × Nat × Nat} (hT : aTabOk) (hq : mjM y = some q) (he : aTab y pc = some (.iconst k, r)) (h1 : r.1 = 1) : mTo sc d (y, pc, lv, st) M (y, pc + 1, lv, .int (Int32.ofInt k) :: st) M :=
  e_st hT hq he (mOr_l (by simp only [mOp1, h1, if_true, mGo]))
end RAWN
/-! what the constructors leave, against the cells' types -/
def cReg (cs : aC) (a : Nat × aV × List (Nat × aV)) (r : tR) : Bool := r.2.2.2.all (fun b => aWithin cs a.2.1 b.1 b.2) && a.2.2.all (fun q => bif ile r.1 (Int.ofNat q.1) && ile (Int.ofNat q.1) r.2.1 then aWithin cs q.2 (tV1 r.2.2.2 r.2.2.1 r.1 (Int.ofNat q.1)).1 (tV1 r.2.2.2 r.2.2.1 r.1 (Int.ofNat q.1)).2 else true)
def cFs (cs : aC) : List (Nat × Nat × Int × Int) → List aV → Bool
  | [], [] => true
  | ft :: fts, a :: fs => (match ft with
    | (0, r, _, _) => aSame a (kR r)
    | (_, _, lo, hi) => aWithin cs a lo hi) && cFs cs fts fs
  | _, _ => false
def cP (cs : aC) (a : Nat × aV × List (Nat × aV)) : Bool := Nat.ble 4000 a.1 && (5 :: 6 :: (List.range 12).map (fun t => 1010 + 200 * t + 3)).all (fun k => aWithin cs (aGetA a k) 0 0)
def cCel (cs : aC) (t : tC) (c : aCe) : Bool := match t, c with
  | .inl (n, tag, regs), .inl a => Nat.beq a.1 n && (regs.all (cReg cs a) && (bif Nat.beq tag 1 then cP cs a else true))
  | .inr (ci, fts), .inr (ci', fs) => Nat.beq ci' ci && cFs cs fts fs
  | _, _ => false
def stC (cs : aC) (h : aHe) : Bool := Nat.beq h.1 138 && (List.range 144).all (fun c => match tTy c with
  | none => true
  | some t => match hget h c with
    | some ce => cCel cs t ce
    | none => false)
theorem cReg_ok {E : List Int} {cs : aC} {a : Nat × aV × List (Nat × aV)} {n : Nat} {f : Nat → Int32} {r : tR} (hE : xE E cs) (hA : xA E a n f) (h : cReg cs a r = true) (k : Nat) (hk : k < n) (h1 : r.1 ≤ (k : Int)) (h2 : (k : Int) ≤ r.2.1) : (tV1 r.2.2.2 r.2.2.1 r.1 (k : Int)).1 ≤ (f k).toInt ∧ (f k).toInt ≤ (tV1 r.2.2.2 r.2.2.1 r.1 (k : Int)).2 := by
  unfold cReg at h
  rw [Bool.and_eq_true] at h
  have hv := hA.2 k hk
  have key : ∀ {lo hi : Int}, aWithin cs (aGetA a k) lo hi = true → lo ≤ (f k).toInt ∧ (f k).toInt ≤ hi := by
    intro lo hi hw
    obtain ⟨x, e1, e2, e3⟩ := aWithin_ok hE hv hw
    cases e1
    exact ⟨e2, e3⟩
  unfold aGetA at key
  cases hf : aFound a.2.2 k with
  | some v =>
    rw [hf] at key
    have hm := aFound_mem hf
    have h3 := List.all_eq_true.mp h.2 _ hm
    have hb : (ile r.1 (Int.ofNat k) && ile (Int.ofNat k) r.2.1) = true := by
      rw [Bool.and_eq_true, ile_iff, ile_iff]; exact ⟨h1, h2⟩
    simp only at h3
    rw [hb, cond_true] at h3
    exact key h3
  | none =>
    rw [hf] at key
    unfold tV1
    cases hg : r.2.2.2[(((k : Int) - r.1) % Int.ofNat r.2.2.1).toNat]? with
    | none => exact ⟨i32_lo _, i32_hi _⟩
    | some b => exact key (List.all_eq_true.mp h.1 b (List.mem_of_getElem? hg))
theorem cFs_ok {E : List Int} {cs : aC} (hE : xE E cs) : ∀ (fts : List (Nat × Nat × Int × Int)) (fs : List aV) (vs : List Value), cFs cs fts fs = true → xS E fs vs → yFs fts vs := by
  intro fts
  induction fts with
  | nil =>
    intro fs vs h hx
    cases fs with
    | nil => cases vs with
      | nil => exact ⟨rfl, fun k ft hk => by simp at hk⟩
      | cons v vs => exact hx.elim
    | cons a fs => cases h
  | cons ft fts ih =>
    intro fs vs h hx
    cases fs with
    | nil => cases h
    | cons a fs =>
      cases vs with
      | nil => exact hx.elim
      | cons v vs =>
        unfold cFs at h
        rw [Bool.and_eq_true] at h
        obtain ⟨g1, g2⟩ := ih fs vs h.2 hx.2
        refine ⟨by simp [g1], fun k ft' hk => ?_⟩
        cases k with
        | succ k => simp only [List.getElem?_cons_succ] at hk ⊢; exact g2 k ft' hk
        | zero =>
          simp only [List.getElem?_cons_zero, Option.some.injEq] at hk ⊢
          subst hk
          refine ⟨v, rfl, ?_⟩
          have h1 := h.1
          have hv := hx.1
          obtain ⟨t0, r, lo, hi⟩ := ft
          cases t0 with
          | zero => rw [aSame_eq h1] at hv; exact hv
          | succ t0 => exact aWithin_ok hE hv h1
theorem cP_ok {E : List Int} {cs : aC} {a : Nat × aV × List (Nat × aV)} {n : Nat} {f : Nat → Int32} (hE : xE E cs) (hA : xA E a n f) (h : cP cs a = true) : yP f := by
  unfold cP at h
  rw [Bool.and_eq_true, Nat.ble_eq] at h
  obtain ⟨h1, h2⟩ := h
  have hn := hA.1
  have key : ∀ k, k ∈ (5 :: 6 :: (List.range 12).map (fun t => 1010 + 200 * t + 3)) → k < 4000 → (f k).toInt = 0 := by
    intro k hk hlt
    obtain ⟨x, e1, e2, e3⟩ := aWithin_ok hE (hA.2 k (by omega)) (List.all_eq_true.mp h2 k hk)
    cases e1
    omega
  have h5 := key 5 (by decide) (by omega)
  have h6 := key 6 (by decide) (by omega)
  have hm : ∀ t : Nat, t < 12 → (f (1010 + 200 * t + 3)).toInt = 0 := fun t ht => key _ (List.mem_cons_of_mem _ (List.mem_cons_of_mem _ (List.mem_map.mpr ⟨t, List.mem_range.mpr ht, rfl⟩))) (by omega)
  refine ⟨by omega, fun k hk => by omega, by omega, fun t ht => ⟨⟨by rw [hm t ht]; omega, fun _ => 0, rfl, fun j hj => by rw [hm t ht] at hj; omega⟩, fun _ => hm t ht⟩⟩
theorem stC_ok {E : List Int} {cs : aC} {h : aHe} {M : mHe} (hE : xE E cs) (hH : xH E h M) (hc : stC cs h = true) : yTy M := by
  unfold stC at hc
  rw [Bool.and_eq_true] at hc
  refine ⟨by rw [← hH.1, Nat.eq_of_beq_eq_true hc.1]; rfl, fun c t ht => ?_⟩
  have h1 := List.all_eq_true.mp hc.2 c (List.mem_range.mpr (tTy_lt ht))
  rw [ht] at h1
  simp only at h1
  cases hg : hget h c with
  | none => rw [hg] at h1; cases h1
  | some ce =>
    rw [hg] at h1
    obtain ⟨m, m1, m2⟩ := hH.2 c ce hg
    refine ⟨m, m1, ?_⟩
    simp only at h1
    unfold cCel at h1
    split at h1
    · next n tag regs a =>
      cases m with
      | inr p => exact m2.elim
      | inl p =>
        obtain ⟨n', f⟩ := p
        rw [Bool.and_eq_true, Bool.and_eq_true] at h1
        have hA : xA E a n' f := m2
        have hn := Nat.eq_of_beq_eq_true h1.1
        have hn' : n' = n := by rw [← hA.1]; exact hn
        subst hn'
        refine ⟨rfl, fun r hr k hk k1 k2 => cReg_ok hE hA (List.all_eq_true.mp h1.2.1 r hr) k hk k1 k2, fun htag => ?_⟩
        have h3 := h1.2.2
        subst htag
        exact cP_ok hE hA h3
    · next ci fts ci' fs =>
      cases m with
      | inl p => exact m2.elim
      | inr p =>
        obtain ⟨ci2, vs⟩ := p
        rw [Bool.and_eq_true] at h1
        obtain ⟨q1, q2⟩ := m2
        exact ⟨by rw [← q1]; exact Nat.eq_of_beq_eq_true h1.1, cFs_ok hE fts fs vs h1.2 q2⟩
    · cases h1
/-- what is known at first: cell, first, last, value -/
def hIni : List (Nat × Nat × Nat × Int) := [(40, 0, 0, 0), (41, 0, 5, 0), (42, 0, 7, 0), (0, 2, 2, 0), (119, 3, 3, 0), (120, 9, 9, 0), (120, 3440, 3733, 0), (120, 3740, 3755, -1)]
def hAtS (v : Nat → Nat → Int) : Prop := ∀ q ∈ hIni, ∀ k, q.2.1 ≤ k → k ≤ q.2.2.1 → v q.1 k = q.2.2.2
theorem hIni_ok {M : mHe} (h : hAtS (fun c k => (rdI M c k).toInt)) : lwR M := by
  have g : ∀ q ∈ hIni, ∀ k, q.2.1 ≤ k → k ≤ q.2.2.1 → (rdI M q.1 k).toInt = q.2.2.2 := h
  have z : ∀ c k : Nat, (rdI M c k).toInt = 0 → rdI M c k = 0 := fun c k e => i32eq (by rw [e]; rfl)
  refine ⟨⟨?_, fun i hi a b ha hb hab => ?_, fun h hh => Or.inl ⟨z _ _ (g (42, 0, 7, 0) (by decide) h (Nat.zero_le _) (by show h ≤ 7; omega)), ?_⟩⟩, ?_, fun hk => absurd (z _ _ (g (0, 2, 2, 0) (by decide) 2 (Nat.le_refl _) (Nat.le_refl _))) hk⟩
  · rw [z _ _ (g (40, 0, 0, 0) (by decide) 0 (Nat.le_refl _) (Nat.le_refl _)), z _ _ (g (120, 9, 9, 0) (by decide) 9 (Nat.le_refl _) (Nat.le_refl _))]
  · rw [z _ _ (g (41, 0, 5, 0) (by decide) i (Nat.zero_le _) (by show i ≤ 5; omega)), z _ _ (g (120, 3440, 3733, 0) (by decide) (3440 + 49 * i + 7 * a + b) (by show 3440 ≤ _; omega) (by show _ ≤ 3733; omega))]
    exact ⟨fun _ => rfl, fun _ => Int32.zero_and⟩
  · exact i32eq (g (120, 3740, 3755, -1) (by decide) (3740 + 2 * h) (by show 3740 ≤ _; omega) (by show _ ≤ 3755; omega))
  · rw [z _ _ (g (0, 2, 2, 0) (by decide) 2 (Nat.le_refl _) (Nat.le_refl _)), z _ _ (g (119, 3, 3, 0) (by decide) 3 (Nat.le_refl _) (Nat.le_refl _))]
/-- places known at first -/
def hsP (cs : aC) (h : aHe) (p : Nat × Nat × Int) : Bool := Nat.blt p.1 144 && (match aElem h p.1 p.2.1 with
  | some a => aWithin cs a p.2.2 p.2.2
  | none => false)
def hsL : List (Nat × Nat × Int) := hIni.flatMap (fun q => (List.range (q.2.2.1 + 1 - q.2.1)).map (fun i => (q.1, q.2.1 + i, q.2.2.2)))
def hsA (cs : aC) (h : aHe) : Bool := hsL.all (hsP cs h)
theorem hsP_ok {E : List Int} {cs : aC} {h : aHe} {M : mHe} (hE : xE E cs) (hH : xH E h M) {c k : Nat} {v : Int} (h1 : hsP cs h (c, k, v) = true) : (rdI M c k).toInt = v := by
  unfold hsP at h1
  rw [Bool.and_eq_true, Nat.blt_eq] at h1
  obtain ⟨hlt, h1⟩ := h1
  simp only at hlt h1
  unfold aElem at h1
  cases hg : hget h c with
  | none => rw [hg] at h1; cases h1
  | some ce =>
    rw [hg] at h1
    obtain ⟨m, m1, m2⟩ := hH.2 c ce hg
    cases ce with
    | inl a =>
      cases m with
      | inr p => exact m2.elim
      | inl p =>
        obtain ⟨n, f⟩ := p
        have hA : xA E a n f := m2
        simp only at h1
        cases hb : Nat.blt k a.1
        · rw [hb, cond_false] at h1; cases h1
        · rw [hb, cond_true] at h1
          have hk : k < n := by rw [← hA.1]; exact Nat.blt_eq.mp hb
          obtain ⟨x, e1, e2, e3⟩ := aWithin_ok hE (hA.2 k hk) h1
          rw [rdI_arr hlt m1 hk]
          cases e1
          omega
    | inr p =>
      obtain ⟨ci, fs⟩ := p
      cases m with
      | inl p => exact m2.elim
      | inr p =>
        obtain ⟨ci2, vs⟩ := p
        simp only at h1
        cases hf : fs[k]? with
        | none => rw [hf] at h1; cases h1
        | some a =>
          rw [hf] at h1
          obtain ⟨w, w1, w2⟩ := xS_get m2.2 hf
          obtain ⟨x, rfl, e2, e3⟩ := aWithin_ok hE w2 h1
          rw [rdI_obj hlt m1 w1]
          omega
theorem hsA_ok {E : List Int} {cs : aC} {h : aHe} {M : mHe} (hE : xE E cs) (hH : xH E h M) (hc : hsA cs h = true) : hAtS (fun c k => (rdI M c k).toInt) := fun q hq k h1 h2 => by
  refine hsP_ok hE hH (List.all_eq_true.mp hc (q.1, k, q.2.2.2) (List.mem_flatMap.mpr ⟨q, hq, List.mem_map.mpr ⟨k - q.2.1, List.mem_range.mpr (by omega), ?_⟩⟩))
  rw [show q.2.1 + (k - q.2.1) = k by omega]
/-- a new object -/
def stN (ci : Nat) (h : aHe) : Option aHe := match vwCl[ci]?, mjTys[ci]? with
  | some q, some ty => bif (List.range q.2.2).any (fun j => Nat.beq (aDef (ty j)).1 99) then none else hpush h (.inr (ci, (List.range q.2.2).map (fun j => aDef (ty j))))
  | _, _ => none
theorem stN_ok {E : List Int} {h h' : aHe} {M : mHe} {ci : Nat} (hh : xH E h M) (hn : stN ci h = some h') : ∃ q ty, vwCl[ci]? = some q ∧ mjTys[ci]? = some ty ∧ xH E h' (M ++ [.inr (ci, (List.range q.2.2).map (fun j => defaultValue (ty j)))]) := by
  unfold stN at hn
  split at hn
  · next q ty hq hty =>
    cases hb : (List.range q.2.2).any (fun j => Nat.beq (aDef (ty j)).1 99)
    · rw [hb, cond_false] at hn
      refine ⟨q, ty, hq, hty, hpush_ok hh ?_ hn⟩
      refine ⟨rfl, xS_def _ (fun j hj => ?_)⟩
      have h1 := List.any_eq_false.mp hb j hj
      cases hz : Nat.beq (aDef (ty j)).1 99
      · rfl
      · exact absurd hz h1
    · rw [hb] at hn; cases hn
  · cases hn
def stRun (y r : Nat) (h : aHe) (cs : aC) : Option (List aLf) := aRun (fun _ _ => none) 40000 none 149 [] [] (y, 0, [(0, kR r)], []) h cs
def stA : Bool := match stN 11 (0, []) with
  | none => false
  | some h1 => match stRun 182 9 h1 ([], []) with
    | none => false
    | some lfs => lfs.all (fun lf => match lf.1, stN 12 lf.2.1 with
      | none, some h2 => Nat.beq lf.2.1.1 119 && (match stRun 238 128 h2 lf.2.2 with
        | none => false
        | some lfs2 => lfs2.all (fun lf2 => match lf2.1 with
          | none => stC lf2.2.2 lf2.2.1 && hsA lf2.2.2 lf2.2.1
          | some _ => false))
      | _, _ => false)
set_option maxRecDepth 1000000 in
theorem stA_ok : stA = true := by decide +kernel
theorem stRun_ok (hT : aTabOk) {y r : Nat} {h : aHe} {cs : aC} {lfs : List aLf} {E : List Int} {M : mHe} (hr : stRun y r h cs = some lfs) (hE : xE E cs) (hH : xH E h M) : ∃ lf ∈ lfs, ∃ X N res M', xE (E ++ X) lf.2.2 ∧ mRun none N 149 (y, 0, [(0, .ref r)], []) M = some (res, M') ∧ xO (E ++ X) lf.1 res ∧ xH (E ++ X) lf.2.1 M' := by
  have hc := aRun_ok hT 40000 none none 149 [] [] (y, 0, [(0, kR r)], []) h cs lfs E [(0, .ref r)] [] M hr hE (by
    intro k v hk
    unfold alg at hk
    cases hb : Nat.beq 0 k
    · rw [hb, cond_false] at hk; cases hk
    · rw [hb, cond_true] at hk
      cases hk
      have := Nat.eq_of_beq_eq_true hb
      subst this
      exact ⟨_, rfl, rfl⟩) trivial hH (fun n a z => by cases z) (fun L z => by cases z)
  rcases hc with h | ⟨L, z, -⟩
  · exact h
  · cases z
/-- the law's run, from its first row -/
theorem law_0 (hT : aTabOk) (hK : ∀ c ∈ tKs_144, tCtOk c) {n : Nat} {f : Nat → Int32} (hn : n ≤ 384) : ∃ N M', mRun (some (n, f)) N 150 (365, 0, [(0, .ref 0)], []) [] = some (some (.int 1), M') ∧ yTy M' := by
  have hA := stA_ok
  unfold stA at hA
  split at hA
  · cases hA
  next h1 hn1 =>
  split at hA
  · cases hA
  next lfs hr =>
  have hE0 : xE [] ([], []) := ⟨rfl, fun i e he => by simp at he, fun i l u e _ he => by simp at he, fun t ht => by cases ht⟩
  have hH0 : xH [] (0, []) [] := ⟨rfl, fun k c hk => by unfold hget at hk; simp at hk⟩
  obtain ⟨q1, ty1, c1, t1, H1⟩ := stN_ok hH0 hn1
  obtain ⟨lf, m1, X1, N1, r1, M1, E1, R1, O1, H2⟩ := stRun_ok hT hr hE0 H1
  have hB := List.all_eq_true.mp hA lf m1
  split at hB
  · next o1 h2 ho hn2 =>
    rw [Bool.and_eq_true] at hB
    obtain ⟨hB1, hB2⟩ := hB
    split at hB2
    · cases hB2
    next lfs2 hr2 =>
    obtain ⟨q2, ty2, c2, t2, H3⟩ := stN_ok H2 hn2
    obtain ⟨lf2, m2, X2, N2, r2, M2, E2, R2, O2, H4⟩ := stRun_ok hT hr2 E1 H3
    have hC := List.all_eq_true.mp hB2 lf2 m2
    split at hC
    · next o2 =>
      rw [Bool.and_eq_true] at hC
      have hM : yTy M2 := stC_ok E2 H4 hC.1
      have hR : lwR M2 := hIni_ok (hsA_ok E2 H4 hC.2)
      have hl1 : M1.length = 119 := by rw [← H2.1]; exact Nat.eq_of_beq_eq_true hB1
      rw [ho] at O1
      have e1 : r1 = none := by
        cases r1 with
        | none => rfl
        | some v => exact O1.elim
      subst e1
      rw [o2] at O2
      have e2 : r2 = none := by
        cases r2 with
        | none => rfl
        | some v => exact O2.elim
      subst e2
      have L := hLoop hT (n := n) (f := f) hn (lw_all hT hK hn) 384 0 (mlp 3 (.int 0) (mlp 2 (.ref 128) (mlp 1 (.ref 9) [(0, .ref 0)]))) M2 ⟨by decide +kernel, by decide +kernel, by decide +kernel, ⟨0, by decide +kernel, rfl⟩, ⟨by decide, by decide⟩, hM, hR⟩ (by decide)
      obtain ⟨N, M', L1, L2⟩ := L
      have s1 := e_new (sc := some (n, f)) (d := 150) (lv := [(0, .ref 0)]) (st := []) (M := []) hT (y := 365) (pc := 0) (q := (yL_law, cL_law, 4, (some .boolean), 13)) rfl (show aTab 365 0 = some (.new 7, 3, 10, 11, 0, 0, 0, 0) from rfl) c1 t1
      have s2 := e_dup (sc := some (n, f)) (d := 150) (lv := [(0, .ref 0)]) (st := []) (M := [.inr (11, (List.range q1.2.2).map (fun j => defaultValue (ty1 j)))]) (a := 9) hT (y := 365) (pc := 3) (q := (yL_law, cL_law, 4, (some .boolean), 13)) rfl (show aTab 365 3 = some (.dup, 1, 0, 0, 0, 0, 0, 0) from rfl) rfl
      have s3 := e_calli (sc := some (n, f)) (d := 149) (lv := [(0, .ref 0)]) (st := [.ref 9, .ref 9]) (M := [.inr (11, (List.range q1.2.2).map (fun j => defaultValue (ty1 j)))]) (r := 9) (rest := [.ref 9]) hT (y := 365) (pc := 4) (q := (yL_law, cL_law, 4, (some .boolean), 13)) rfl (show aTab 365 4 = some (.invokespecial 9, 3, 4, 182, 0, 0, 1, 11) from rfl) rfl (by decide) (by decide) (by decide) ⟨by decide, by decide⟩ R1
      have s4 := e_as1 (sc := some (n, f)) (d := 150) (lv := [(0, .ref 0)]) (st := []) (M := M1) (k := 1) (a := 9) hT (y := 365) (pc := 7) (q := (yL_law, cL_law, 4, (some .boolean), 13)) rfl (show aTab 365 7 = some (.astore_n 1, 1, 0, 0, 0, 0, 0, 0) from rfl) ⟨rfl, by decide⟩
      have s5 := e_new (sc := some (n, f)) (d := 150) (lv := mlp 1 (.ref 9) [(0, .ref 0)]) (st := []) (M := M1) hT (y := 365) (pc := 8) (q := (yL_law, cL_law, 4, (some .boolean), 13)) rfl (show aTab 365 8 = some (.new 10, 3, 10, 12, 0, 0, 0, 0) from rfl) c2 t2
      rw [hl1] at s5
      have s6 := e_dup (sc := some (n, f)) (d := 150) (lv := mlp 1 (.ref 9) [(0, .ref 0)]) (st := []) (M := M1 ++ [.inr (12, (List.range q2.2.2).map (fun j => defaultValue (ty2 j)))]) (a := 128) hT (y := 365) (pc := 11) (q := (yL_law, cL_law, 4, (some .boolean), 13)) rfl (show aTab 365 11 = some (.dup, 1, 0, 0, 0, 0, 0, 0) from rfl) rfl
      have s7 := e_calli (sc := some (n, f)) (d := 149) (lv := mlp 1 (.ref 9) [(0, .ref 0)]) (st := [.ref 128, .ref 128]) (M := M1 ++ [.inr (12, (List.range q2.2.2).map (fun j => defaultValue (ty2 j)))]) (r := 128) (rest := [.ref 128]) hT (y := 365) (pc := 12) (q := (yL_law, cL_law, 4, (some .boolean), 13)) rfl (show aTab 365 12 = some (.invokespecial 12, 3, 4, 238, 0, 0, 2, 12) from rfl) rfl (by decide) (by decide) (by decide) ⟨by decide, by decide⟩ R2
      have s8 := e_as1 (sc := some (n, f)) (d := 150) (lv := mlp 1 (.ref 9) [(0, .ref 0)]) (st := []) (M := M2) (k := 2) (a := 128) hT (y := 365) (pc := 15) (q := (yL_law, cL_law, 4, (some .boolean), 13)) rfl (show aTab 365 15 = some (.astore_n 2, 1, 0, 0, 0, 0, 0, 0) from rfl) ⟨rfl, by decide⟩
      have s9 := e_ic (sc := some (n, f)) (d := 150) (lv := mlp 2 (.ref 128) (mlp 1 (.ref 9) [(0, .ref 0)])) (st := []) (M := M2) hT (y := 365) (pc := 16) (q := (yL_law, cL_law, 4, (some .boolean), 13)) rfl (show aTab 365 16 = some (.iconst 0, 1, 0, 0, 0, 0, 0, 0) from rfl) rfl
      have s10 := e_is1 (sc := some (n, f)) (d := 150) (lv := mlp 2 (.ref 128) (mlp 1 (.ref 9) [(0, .ref 0)])) (st := []) (M := M2) (k := 3) (x := 0) hT (y := 365) (pc := 17) (q := (yL_law, cL_law, 4, (some .boolean), 13)) rfl (show aTab 365 17 = some (.istore_n 3, 1, 0, 0, 0, 0, 0, 0) from rfl) ⟨rfl, by decide⟩
      have s := mTo_tr s1 (mTo_tr s2 (mTo_tr s3 (mTo_tr s4 (mTo_tr s5 (mTo_tr s6 (mTo_tr s7 (mTo_tr s8 (mTo_tr s9 s10))))))))
      obtain ⟨N', h⟩ := s N _ L1
      exact ⟨N', M', h, L2⟩
    · cases hC
  · cases hB
/-- no room is taken behind the start -/
theorem tTy_sz : ∀ c : Nat, c < 138 → ∃ t, tTy c = some t ∧ (match t with
  | .inl (n, _, _) => n
  | .inr (_, fts) => fts.length) ≤ 4000 := by
  intro c hc
  have h : (List.range 138).all (fun c => match tTy c with
    | none => false
    | some (.inl (n, _, _)) => Nat.ble n 4000
    | some (.inr (_, fts)) => Nat.ble fts.length 4000) = true := by decide +kernel
  have h1 := List.all_eq_true.mp h c (List.mem_range.mpr hc)
  split at h1
  · cases h1
  · next n a b e => exact ⟨_, e, Nat.ble_eq.mp h1⟩
  · next a fts e => exact ⟨_, e, Nat.ble_eq.mp h1⟩
theorem mSl_le : ∀ (M : mHe), (∀ m ∈ M, mSz m ≤ 4000) → mSl M ≤ 4000 * M.length := by
  intro M
  induction M with
  | nil => intro _; exact Nat.le_refl _
  | cons m M ih =>
    intro h
    have h1 := ih (fun m' hm => h m' (List.mem_cons_of_mem _ hm))
    have h2 := h m List.mem_cons_self
    simp only [mSl, List.map_cons, List.sum_cons, List.length_cons] at h1 ⊢
    omega
theorem yTy_room {M : mHe} (h : yTy M) : M.length ≤ 600000 ∧ mSl M ≤ 7302250 := by
  have hl : M.length = 138 := h.1
  have : mSl M ≤ 4000 * M.length := mSl_le M (fun m hm => by
    obtain ⟨c, hc⟩ := List.mem_iff_getElem?.mp hm
    have hlt : c < 138 := by have := (List.getElem?_eq_some_iff.mp hc).1; omega
    obtain ⟨t, t1, t2⟩ := tTy_sz c hlt
    obtain ⟨m', m1, m2⟩ := h.2 c t t1
    rw [hc] at m1
    cases m1
    unfold yCel at m2
    split at m2
    · next n tag regs n' f => rw [show mSz (.inl (n', f)) = n' from rfl, m2.1]; exact t2
    · next ci fts ci' fs => rw [show mSz (.inr (ci', fs)) = fs.length from rfl, m2.2.1]; exact t2
    · exact m2.elim)
  exact ⟨by omega, by omega⟩
