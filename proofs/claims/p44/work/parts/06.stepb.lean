/-! THE SAME: fields, arrays, what is made, intrinsic calls -/
theorem mDy_keep {g : mG} {s : State} {H H1 : Heap} {locs locs1 : List Loc} (hS : va_S (gO g) s.heap H locs) (hS1 : va_S (gO g) s.heap H1 locs1) (hg : g0 g ≤ s.heap.size) : ∀ a : Nat, a < H.size → ¬ gO g a → H1[a]? = H[a]? := by
  intro a _ ha
  have ha' : a < g0 g := Nat.lt_of_not_le ha
  rw [hS.2.1 a (by omega) ha, hS1.2.1 a (by omega) ha]
theorem mW_low {g : mG} {s : State} {H : Heap} {locs : List Loc} {M : mHe} (hP : va_P (gD g) vwCl (mW g M) H) (hS : va_S (gO g) s.heap H locs) (hg : g0 g ≤ s.heap.size) : g0 g + M.length ≤ H.size := by
  rcases Nat.eq_zero_or_pos M.length with h | h
  · have := hS.1; omega
  · have h1 : M[M.length - 1]? = some (M[M.length - 1]'(by omega)) := List.getElem?_eq_getElem _
    have h2 := (hP _ _ (mW_get (g := g) h1)).lt
    have h3 : g0 g + (M.length - 1) < H.size := h2
    omega
section MJB
variable {p : Program} {l : Launch} {e : Env} {R : Room} {s : State} {m : MethodId} {args : Array Value} {below : List Frame} {meth : Method} {c : Code} {H : Heap} {locs : List Loc} {cells slots k0 s0 : Nat} {Q : State → Prop}
variable {g : mG} {d : Nat} {q : mMd} {y y' pc pc' n : Nat} {lv lv' : List (Nat × Value)} {st st' : List Value} {M M' : mHe} {i : Instr} {ls : Array Slot}
theorem W.sz {gf : JFrame} (k : H.size ≤ s.heap.size + cells → W p l e R s m args below meth c H locs cells slots Q gf) : W p l e R s m args below meth c H locs cells slots Q gf := fun T hT X => k (by rw [← hT]; exact X.heapSize) T hT X
/-- the world behind an instruction: its size is what the machine booked -/
theorem mDy_go {gf : JFrame} {H0 : Heap} {locs0 : List Loc} (hX : mX g s H0) (hS0 : va_S (gO g) s.heap H0 locs0) (hP : va_P (gD g) vwCl (mW g M) H) (hS : va_S (gO g) s.heap H locs) (hc : cells + k0 = M.length) (hs : slots + s0 = mSl M) (hz : s.heap.size = g0 g + k0)
    (k : mDy g s H locs M cells slots k0 s0 → W p l e R s m args below meth c H locs cells slots Q gf) : W p l e R s m args below meth c H locs cells slots Q gf := by
  refine W.sz fun hle => k ⟨?_, hP, hS, mX_kept hX (mDy_keep hS0 hS (by omega)), hc, hs, hz⟩
  have := mW_low hP hS (by omega)
  omega
theorem mAd9 {r : Nat} (h : 9 ≤ r) : mAd g r = g0 g + (r - 9) := by rw [mAd, if_neg (by omega), if_neg (by omega)]
theorem mTs9 {r : Nat} (h : 9 ≤ r) (st : List Value) : mTs g (.ref r :: st) = .ref (g0 g + (r - 9)) :: mTs g st := by
  show Value.ref (mAd g r) :: _ = _
  rw [mAd9 h]; rfl
theorem mTs0 (st : List Value) : mTs g (.ref 0 :: st) = .ref (gb g) :: mTs g st := rfl
theorem mFit_n {ty : FieldType} {v : Value} (h : mFit ty v = true) : narrow ty (mTr g v) = mTr g v ∧ fits ty (mTr g v) = true := by
  unfold mFit at h
  split at h
  · exact ⟨rfl, rfl⟩
  · next x =>
    simp only [Bool.or_eq_true, beq_iff_eq] at h
    have h0 : narrow .boolean (.int 0) = .int 0 ∧ fits .boolean (.int 0) = true := by decide +kernel
    have h1 : narrow .boolean (.int 1) = .int 1 ∧ fits .boolean (.int 1) = true := by decide +kernel
    rcases h with rfl | rfl
    · exact h0
    · exact h1
  · exact ⟨rfl, rfl⟩
  · exact ⟨rfl, rfl⟩
  · cases h
/-- a new cell's address -/
theorem mW_new {w : Nat} {x : va_E} (hD : va_D (gO g) (mW g M ++ [(w, x)])) (hP : va_P (gD g) vwCl (mW g M ++ [(w, x)]) H) (hle : H.size ≤ g0 g + M.length + 1) : w = g0 g + M.length := by
  have hln : (mW g M).length = M.length := mWF_len g M 0
  have hlast : (mW g M ++ [(w, x)])[M.length]? = some (w, x) := by rw [← hln]; simp
  have h1 : w < H.size := (hP _ _ hlast).lt
  have h2 : g0 g ≤ w := hD.2 _ _ hlast
  rcases Nat.lt_or_ge w (g0 g + M.length) with h3 | h3
  · have hj : w - g0 g < M.length := by omega
    have h4 := mW_get (g := g) (List.getElem?_eq_getElem hj)
    have h5 : (mW g M ++ [(w, x)])[w - g0 g]? = some (g0 g + (w - g0 g), mTc g M[w - g0 g]) := by rw [List.getElem?_append_left (by omega)]; exact h4
    have h6 := hD.1 _ _ _ _ h5 hlast (by show g0 g + (w - g0 g) = w; omega)
    omega
  · omega
theorem va_RA_int {U : State} {cA : ClassId} (h : va_RA U cA .int) : U.vm.findClass ("[" ++ FieldType.int.toString) = some cA := h
set_option maxHeartbeats 4000000 in
theorem mOp5_W {sc : Option (Nat × (Nat → Int32))} (F : mFx g p s m args meth c R d q) (hsc : ∀ L xs, sc = some (L, xs) → va_X (gb g) L xs s s.heap ∧ gb g < g0 g) (hdg : decode q.2.1 pc = .ok (i, n)) (hl : lv_has ls q.2.2.1 (mTl g lv))
    (hD : mDy g s H locs M cells slots k0 s0) (hai : (Cond.arrayClass .int).before args s = true)
    (h : mOp5 sc (q.1.name == "<init>") q.2.2.2.2 y pc n lv st M i = some (.inl ((y', pc', lv', st'), M'))) (hrc : M'.length ≤ R.cells + k0) (hrs : mSl M' ≤ R.slots + s0)
    (kk : y' = y → ∀ (ls' : Array Slot) (H' : Heap) (locs' : List Loc) (cells' slots' : Nat), lv_has ls' q.2.2.1 (mTl g lv') → mDy g s H' locs' M' cells' slots' k0 s0 → W p l e R s m args below meth c H' locs' cells' slots' Q (F0 m pc' ls' (mTs g st'))) : W p l e R s m args below meth c H locs cells slots Q (F0 m pc ls (mTs g st)) := by
  obtain ⟨hx, hb, hml, hown, hts, hr, hlk, hnm, hfr, hlo⟩ := F
  obtain ⟨hsz, hP, hS, hX, hcl, hsl, hz⟩ := id hD
  have hg0 : g0 g ≤ s.heap.size := by omega
  have hA : ∀ q : Nat, s.heap.size ≤ q → gO g q := fun q hq => Nat.le_trans hg0 hq
  unfold mOp5 at h
  split at h
  · -- getfield
    split at h
    · next r st1 =>
      split at h
      · next o1 o2 ci k hR =>
        split at h
        · next hn =>
          obtain ⟨hn, hr9⟩ := hn
          subst hn
          split at h
          · next ci' fs qc hM hcl' =>
            split at h
            · next hk =>
              obtain ⟨rfl, hk⟩ := hk
              split at h
              · next v hv =>
                obtain ⟨e1, rfl, rfl, rfl, rfl⟩ := mGo_inj h
                have ho := mjR_own hR
                have hw := mjR_words hR
                dsimp only at ho hw
                obtain ⟨rfl, hw⟩ := hw
                subst ho
                have hq : mjCl ci' = qc := by rw [mjCl, hcl']; rfl
                have hlink := hts _ (hw _ (by simp only [mjWords, List.mem_singleton]; rfl))
                rw [hq] at hlink
                rw [mTs9 hr9]
                exact va_get hx hb hts (mjCl_words hcl') hown hX.1 hP (r - 9) (mW_get hM) (by rw [hcl']) k.toNat hk hlink (by rw [mjCl_decl hcl' _ hk]; exact fun x hx => hx) (v := mTr g v) (by show (mTs g fs)[_]? = _; rw [mTs, List.getElem?_map, hv]; rfl) hdg (kk e1 ls H locs cells slots hl hD)
              · cases h
            · cases h
          · cases h
        · cases h
      · cases h
    · cases h
  · -- putfield
    split at h
    · next v r st1 =>
      split at h
      · next o1 o2 ci k hR =>
        split at h
        · next hn =>
          obtain ⟨hn, hr9⟩ := hn
          subst hn
          split at h
          · next ci' fs qc ty hM hcl' hty =>
            split at h
            · next hk =>
              obtain ⟨rfl, hk, hlen, hfit, hfin⟩ := hk
              obtain ⟨e1, rfl, rfl, rfl, rfl⟩ := mGo_inj h
              have ho := mjR_own hR
              have hw := mjR_words hR
              dsimp only at ho hw
              obtain ⟨rfl, hw⟩ := hw
              subst ho
              have hq : mjCl ci' = qc := by rw [mjCl, hcl']; rfl
              have hlink := hts _ (hw _ (by simp only [mjWords, List.mem_singleton]; rfl))
              rw [hq] at hlink
              obtain ⟨tyf, htf, hte⟩ := Option.map_eq_some_iff.mp hty
              obtain ⟨hty0, hnm0⟩ := mjCl_tys hcl' htf
              have hd2 := hty0 k.toNat hk
              rw [hte] at hd2
              obtain ⟨hn1, hn2⟩ := mFit_n (g := g) hfit
              have hst : mTs g (v :: .ref r :: st') = mTr g v :: .ref (g0 g + (r - 9)) :: mTs g st' := by rw [mTs_cons, mTs9 hr9]
              rw [hst]
              have hkk : ∀ (H1 : Heap) (locs1 : List Loc), va_P (gD g) vwCl ((mW g M).set (r - 9) (g0 g + (r - 9), .inr (ci', (mTs g fs).set k.toNat (mTr g v)))) H1 → va_D (gO g) ((mW g M).set (r - 9) (g0 g + (r - 9), .inr (ci', (mTs g fs).set k.toNat (mTr g v)))) → va_S (gO g) s.heap H1 locs1 → W p l e R s m args below meth c H1 locs1 cells slots Q (F0 m (pc + 3) ls (mTs g st')) := by
                intro H1 locs1 hP1 _ hS1
                refine mDy_go (M := M.set (r - 9) (.inr (ci', fs.set k.toNat v))) hX hS ?_ hS1 (by rw [List.length_set]; exact hcl) (by rw [mSl_set M _ _ _ hM (by simp [mSz])]; exact hsl) hz (fun hD' => kk e1 ls H1 locs1 cells slots hl hD')
                rw [mW_set]
                have e5 : mTc g (.inr (ci', fs.set k.toNat v)) = .inr (ci', (mTs g fs).set k.toNat (mTr g v)) := by
                  show Sum.inr (ci', mTs g (fs.set k.toNat v)) = _
                  rw [mTs, List.map_set]; rfl
                rw [e5]
                exact hP1
              rcases hfin with hfin | ⟨hfin, hini, hown2⟩
              · exact va_put hx hb hts (mjCl_words hcl') tyf hty0 hnm0 hown hX.1 hP (mW_D g M) hS (r - 9) (mW_get hM) (by rw [hcl']) k.toNat hk hlink (by rw [mjCl_decl hcl' _ hk]; exact fun x hx => hx) hfin hd2 hn1 hn2 (by show _ < (mTs g fs).length; rw [mTs, List.length_map]; exact hlen) hdg hkk
              · have hq1 : mjC q.2.2.2.2 = qc.1 := by rw [hown2]; exact mjC_cl hcl'
                exact va_putF hx hb hts (mjCl_words hcl') tyf hty0 hnm0 hown hX.1 hP (mW_D g M) hS (r - 9) (mW_get hM) (by rw [hcl']) k.toNat hk hlink (by rw [mjCl_decl hcl' _ hk]; exact fun x hx => hx) hfin (hnm (by simpa using hini)) (by rw [mjCl_decl hcl' _ hk, hq1]) hd2 hn1 hn2 (by show _ < (mTs g fs).length; rw [mTs, List.length_map]; exact hlen) hdg hkk
            · cases h
          · cases h
        · cases h
      · cases h
    · cases h
  · -- iaload
    split at h
    · next i r st1 =>
      split at h
      · next hn =>
        subst hn
        split at h
        · next hr0 =>
          subst hr0
          split at h
          · next L xs =>
            obtain ⟨hXs, hbl⟩ := hsc L xs rfl
            split at h
            · cases h
            · next hin =>
              obtain ⟨e1, rfl, rfl, rfl, rfl⟩ := mGo_inj h
              exact va_sld hx hb hXs (Nat.lt_of_lt_of_le hbl hg0) (by show ¬ g0 g ≤ gb g; omega) hS hin hdg (kk e1 ls H locs cells slots hl hD)
          · cases h
        · split at h
          · next hr9 =>
            split at h
            · next L f hM =>
              split at h
              · cases h
              · next hin =>
                obtain ⟨e1, rfl, rfl, rfl, rfl⟩ := mGo_inj h
                have hst : mTs g (.int i :: .ref r :: st1) = .int i :: .ref (g0 g + (r - 9)) :: mTs g st1 := by rw [mTs_cons, mTs9 hr9]; rfl
                rw [hst]
                exact va_iald hx hb hX.1 hP (r - 9) 0 (mW_get hM) rfl hin hdg (kk e1 ls H locs cells slots hl hD)
            · cases h
          · cases h
      · cases h
    · cases h
  · -- iastore
    split at h
    · next x i r st1 =>
      split at h
      · next hn =>
        obtain ⟨hn, hr9⟩ := hn
        subst hn
        split at h
        · next L f hM =>
          split at h
          · cases h
          · next hin =>
            obtain ⟨e1, rfl, rfl, rfl, rfl⟩ := mGo_inj h
            have hst : mTs g (.int x :: .int i :: .ref r :: st') = .int x :: .int i :: .ref (g0 g + (r - 9)) :: mTs g st' := by rw [mTs_cons, mTs_cons, mTs9 hr9]; rfl
            rw [hst]
            refine va_iast hx hb hX.1 hP (mW_D g M) hS (r - 9) 0 (mW_get hM) rfl hin hdg (fun H1 locs1 hP1 _ hS1 => ?_)
            refine mDy_go (M := M.set (r - 9) (.inl (L, upd f i.toNatClampNeg x))) hX hS ?_ hS1 (by rw [List.length_set]; exact hcl) (by rw [mSl_set M (r - 9) (.inl (L, f)) (.inl (L, upd f i.toNatClampNeg x)) hM rfl]; exact hsl) hz (fun hD' => kk e1 ls H1 locs1 cells slots hl hD')
            rw [mW_set]
            exact hP1
        · cases h
      · cases h
    · cases h
  · -- arraylength
    split at h
    · next r st1 =>
      split at h
      · next hn =>
        subst hn
        split at h
        · next hr0 =>
          subst hr0
          split at h
          · next L xs =>
            obtain ⟨hXs, hbl⟩ := hsc L xs rfl
            obtain ⟨e1, rfl, rfl, rfl, rfl⟩ := mGo_inj h
            exact va_slen hx hb hXs (Nat.lt_of_lt_of_le hbl hg0) (by show ¬ g0 g ≤ gb g; omega) hS hdg (kk e1 ls H locs cells slots hl hD)
          · cases h
        · split at h
          · next hr9 =>
            split at h
            · next L f hM =>
              obtain ⟨e1, rfl, rfl, rfl, rfl⟩ := mGo_inj h
              rw [mTs9 hr9]
              exact va_alen hx hb hX.1 hP (r - 9) 0 (mW_get hM) rfl rfl hdg (kk e1 ls H locs cells slots hl hD)
            · cases h
          · cases h
      · cases h
    · cases h
  · -- newarray
    split at h
    · next k st1 =>
      split at h
      · next hn =>
        obtain ⟨hn, hk0, hk1⟩ := hn
        subst hn
        obtain ⟨e1, rfl, rfl, rfl, rfl⟩ := mGo_inj h
        have hlen : (M ++ [Sum.inl (k.toNatClampNeg, fun _ => (0 : Int32))] : mHe).length = M.length + 1 := by simp
        have hsl2 : mSl (M ++ [Sum.inl (k.toNatClampNeg, fun _ => (0 : Int32))]) = mSl M + k.toNatClampNeg := mSl_app M _
        rw [hlen] at hrc
        rw [hsl2] at hrs
        refine va_newa (atype := .int) (ty := .int) (N' := k.toNatClampNeg) (a0 := (k.toNatClampNeg, .inl (fun _ => 0))) hx hb hai rfl hX.1 hP (mW_D g M) hS hA (fun _ => rfl) hk0 rfl (by show k.toNatClampNeg * 4 ≤ 536870912; omega) (by omega) (by omega) hdg (fun w cA H1 hK1 hP1 hD1 hS1 => ?_)
        have hcA : cA = gA g := by
          have h1 := va_RA_int (hK1.2 1 _ rfl).2
          have h2 := va_RA_int (hX.1.2 0 _ rfl).2
          exact Option.some.inj (h1.symm.trans h2)
        subst hcA
        refine W.sz fun hle => ?_
        have hw := mW_new hD1 hP1 (by omega)
        subst hw
        have ev : mTs g (.ref (9 + M.length) :: st1) = .ref (g0 g + M.length) :: mTs g st1 := by rw [mTs9 (by omega)]; congr 3; omega
        have hkk := kk e1 ls
        rw [ev] at hkk
        refine mDy_go (M := M ++ [Sum.inl (k.toNatClampNeg, fun _ => (0 : Int32))]) hX hS ?_ hS1 (by rw [hlen]; omega) (by rw [hsl2]; omega) hz (fun hD' => hkk H1 locs (cells + 1) (slots + k.toNatClampNeg) hl hD')
        rw [mW_app]
        exact hP1
      · cases h
    · cases h
  · -- new
    split at h
    · next o1 o2 ci v hR =>
      split at h
      · next qc tyf hcl' htf =>
        split at h
        · next hn =>
          subst hn
          obtain ⟨e1, rfl, rfl, rfl, rfl⟩ := mGo_inj h
          have ho := mjR_own hR
          have hw := mjR_words hR
          dsimp only at ho hw
          obtain ⟨rfl, hw⟩ := hw
          subst ho
          have hq : mjCl ci = qc := by rw [mjCl, hcl']; rfl
          obtain ⟨hty0, hnm0⟩ := mjCl_tys hcl' htf
          have w1 := hts _ (hw (.classLink (mjC q.2.2.2.2) _ (mjCl ci).1) (by simp [mjWords]; rfl))
          have w2 := hts _ (hw (.instantiable (mjCl ci).1 (mjCl ci).2.2) (by simp [mjWords]))
          have w3 := hts _ (hw (.initialized (mjCl ci).1) (by simp [mjWords]))
          rw [hq] at w1 w2 w3
          generalize hfs : (List.range qc.2.2).map (fun j => defaultValue (tyf j)) = fs at *
          have hfl : fs.length = qc.2.2 := by rw [← hfs]; simp
          have hlen : (M ++ [Sum.inr (ci, fs)] : mHe).length = M.length + 1 := by simp
          have hsl2 : mSl (M ++ [Sum.inr (ci, fs)]) = mSl M + fs.length := mSl_app M _
          rw [hlen] at hrc
          rw [hsl2] at hrs
          have hfd : mTs g fs = fs := by
            rw [← hfs, mTs, List.map_map]
            refine List.map_congr_left fun j _ => ?_
            show mTr g (defaultValue (tyf j)) = _
            cases tyf j <;> rfl
          refine va_new (ci := ci) (fs := fs) hx hb hts (mjCl_words hcl') tyf hty0 hown w1 w2 w3 hX.1 hP (mW_D g M) hS hA (by rw [hcl']) (fun j hj => ?_) (by omega) (by omega) hdg (fun w H1 hP1 hD1 hS1 => ?_)
          · show _ = fs.getD j .null
            rw [← hfs, List.getD_eq_getElem?_getD, List.getElem?_map, List.getElem?_range hj]; rfl
          · refine W.sz fun hle => ?_
            have hw2 := mW_new hD1 hP1 (by omega)
            subst hw2
            have ev : mTs g (.ref (9 + M.length) :: st) = .ref (g0 g + M.length) :: mTs g st := by rw [mTs9 (by omega)]; congr 3; omega
            have hkk := kk e1 ls
            rw [ev] at hkk
            rw [← hfl]
            refine mDy_go (M := M ++ [Sum.inr (ci, fs)]) hX hS ?_ hS1 (by rw [hlen]; omega) (by rw [hsl2]; omega) hz (fun hD' => hkk H1 locs (cells + 1) (slots + fs.length) hl hD')
            rw [mW_app]
            have e6 : mTc g (.inr (ci, fs)) = .inr (ci, fs) := by show Sum.inr (ci, mTs g fs) = _; rw [hfd]
            rw [e6]
            exact hP1
        · cases h
      · cases h
    · cases h
  · cases h
end MJB
