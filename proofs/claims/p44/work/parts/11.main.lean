/-! CALLS, and the whole: what the small machine answers, the real one does -/
section MJZ
variable {p : Program} {l : Launch} {e : Env} {R : Room} {s : State} {m : MethodId} {args : Array Value} {below : List Frame} {meth : Method} {c : Code} {H : Heap} {locs : List Loc} {cells slots k0 s0 : Nat} {Q : State → Prop}
variable {g : mG} {d : Nat} {q : mMd} {y y' pc pc' n : Nat} {lv lv' : List (Nat × Value)} {st st' : List Value} {M M' M1 : mHe} {i : Instr} {ls : Array Slot} {r : Option Value}
theorem mCall_inj {y2 : Nat} {vs vs2 rest : List Value} {fr2 : mFr} (h : mCall y pc lv rest M y' vs = some (.inr (.inl (y2, vs2, fr2)))) : y2 = y' ∧ vs2 = vs ∧ fr2 = (y, pc + 3, lv, rest) ∧ ∃ q2, mjM y' = some q2 ∧ mCat rest ≤ 8 ∧ (lg_sl vs).length ≤ q2.2.2.1 ∧ q2.2.2.1 ≤ 100 ∧ q2.2.2.2.2 ≠ 13 := by
  unfold mCall at h
  split at h
  · cases h
  · next q2 hq =>
    split at h
    · next hc =>
      simp only [Option.some.injEq, Sum.inr.injEq, Sum.inl.injEq, Prod.mk.injEq] at h
      exact ⟨h.1.symm, h.2.1.symm, by rw [← h.2.2], q2, hq, hc⟩
    · cases h
theorem mSplit (st : List Value) (k : Nat) : mTs g st = (mTs g (st.take k).reverse).reverse ++ mTs g (st.drop k) := by
  unfold mTs
  rw [← List.map_reverse, List.reverse_reverse, ← List.map_append, List.take_append_drop]
set_option maxHeartbeats 4000000 in
theorem mOp6_C {y2 : Nat} {vs : List Value} {fr2 : mFr} {mc ms d' : Nat} (F : mFx g p s m args meth c R d q) (hd : d = d' + 1) (hdg : decode q.2.1 pc = .ok (i, n)) (hl : lv_has ls q.2.2.1 (mTl g lv))
    (hD : mDy g s H locs M cells slots k0 s0) (hrc : M1.length ≤ R.cells + k0) (hrs : mSl M1 ≤ R.slots + s0) (hc : mc + M.length = M1.length) (hs : ms + mSl M = mSl M1)
    (h : mOp6 d q.2.2.2.2 y pc n lv st M i = some (.inr (.inl (y2, vs, fr2))))
    (hM : ∀ q2, mjM y2 = some q2 → (lg_sl vs).length ≤ q2.2.2.1 → q2.2.2.2.2 ≠ 13 → Met l q2.1 (mjMw q2 :: mjT) (mRm d' mc ms) (mPc g vs M) (mQ g r M1) mc ms (gO g))
    (kk : ∀ (pc' : Nat) (rest : List Value), fr2 = (y, pc', lv, rest) → ∀ (H' : Heap) (locs' : List Loc) (cells' slots' : Nat), mDy g s H' locs' M1 cells' slots' k0 s0 → W p l e R s m args below meth c H' locs' cells' slots' Q (F0 m pc' ls (mTs g (r.toList ++ rest)))) : W p l e R s m args below meth c H locs cells slots Q (F0 m pc ls (mTs g st)) := by
  obtain ⟨hx, hb, hml, hown, hts, hr, hlk, hnm, hfr, hlo⟩ := F
  obtain ⟨hsz, hP, hS, hX, hcl, hsl, hz⟩ := id hD
  have fin : ∀ {a : Array Value} {rest : List Value}, fr2 = (y, pc + 3, lv, rest) → va_Run p l e R s m args below meth c H locs cells slots mc ms (F0 m pc ls (mTs g st)) (mTs g rest) (mQ g r M1 a) (gO g) → W p l e R s m args below meth c H locs cells slots Q (F0 m pc ls (mTs g st)) := by
    intro a rest hfr2 hRun
    refine mRunW hRun hD hc hs (fun H1 locs1 hD1 => ?_)
    have := kk (pc + 3) rest hfr2 H1 locs1 (cells + mc) (slots + ms) hD1
    rw [mTs, List.map_append] at this
    exact this
  have hcode : ∀ q2, mjM y2 = some q2 → q2.2.2.2.2 ≠ 13 → ∀ w ∈ mjMw q2 :: mjT, w ∈ mjT := by
    intro q2 hq2 h13 w hw
    rcases List.mem_cons.mp hw with rfl | hw
    · exact (mjM_word hq2).1 h13
    · exact hw
  have hroom : cells + mc ≤ R.cells ∧ slots + ms ≤ R.slots := by omega
  have hgo : ∀ {y2 pc2 : Nat} {lv2 : List (Nat × Value)} {st2 : List Value} {N : mHe}, mGo y2 pc2 lv2 st2 N = some (.inr (.inl (y2, vs, fr2))) → False := fun h => mGo_no h
  unfold mOp6 at h
  split at h
  · -- invokevirtual
    split at h
    · next hn =>
      subst hn
      split at h
      · next o1 idx y' o4 hR =>
        split at h
        · cases h
        · next k hk =>
          split at h
          · next rr rest hdrop =>
            split at h
            · next hcc =>
              obtain ⟨h9, hkl⟩ := hcc
              split at h
              · next ci fs q2' hMr hq2' =>
                split at h
                · next hci =>
                  obtain ⟨rfl, rfl, hfr2, q2, hq2, hcat, hlen, hml2, h13⟩ := mCall_inj h
                  have hqq : q2' = q2 := Option.some.inj (hq2'.symm.trans hq2)
                  subst hqq
                  have hY := mjY_eq hq2
                  have ho := mjR_own hR
                  have hw := mjR_words hR
                  dsimp only at ho hw
                  obtain ⟨rfl, hw⟩ := hw
                  subst ho
                  obtain ⟨hcls, hmh1, hmh2⟩ := mjM_cls hq2
                  have hG : GoodIn mjT (wsV (mjC q.2.2.2.2) idx q2'.1.cls q2'.1 (mjMw q2' :: mjT)) := mEq2 (fun w hw2 => hw w (by show w ∈ mjWords (_, _, 1, _, _); simp only [mjWords, hY]; exact hw2)) (hcode q2' hq2 h13)
                  have hPre := mPreS (vs := .ref rr :: (st.take k).reverse) hD
                  have hvs : mTs g (.ref rr :: (st.take k).reverse) = .ref (mAd g rr) :: mTs g (st.take k).reverse := rfl
                  rw [hvs] at hPre
                  obtain ⟨rc, hrc1, -⟩ := hP (rr - 9) _ (mW_get hMr)
                  have hrc1 : vwCl[ci]? = some rc := hrc1
                  have hrcv := va_recv hX.1 hP hrc1 (mW_get hMr)
                  have hst : mTs g st = (mTs g (st.take k).reverse).reverse ++ .ref (mAd g rr) :: mTs g rest := by
                    rw [mSplit st k, hdrop]; rfl
                  have hcc2 : rc.1 = q2'.1.cls := by rw [← mjC_cl hrc1, hci, hcls]
                  rw [hcc2] at hrcv
                  have h9' : mAd g rr = g0 g + (rr - 9) := mAd9 h9
                  rw [← h9'] at hrcv
                  refine fin hfr2 (va_runV (C := q2'.1.cls) (b := mAd g rr) (As := mTs g (st.take k).reverse) ⟨hx, hb, hml, hown, hts⟩ (hM q2' hq2 hlen h13) (cwV k hts hG rfl rfl rfl ⟨rfl, hmh1, hmh2, by rw [← hY]; exact hk⟩ ⟨by show d' + 1 ≤ R.frames; omega, by show 8 + (q2'.2.2.1 + 11) + 300 * d' ≤ R.locals; omega⟩) ⟨hPre.1, hrcv, hPre.2⟩ rfl (by simp [mTs]; omega) hl.1 hst (lv_room (by rw [mTs_cat]; exact hcat)) hdg hroom)
                · cases h
              · cases h
            · cases h
          · cases h
      · split at h
        · split at h
          · split at h
            · exact (mGo_no h).elim
            · cases h
          · cases h
        · cases h
      · split at h
        · split at h
          · split at h
            · exact (mGo_no h).elim
            · cases h
          · cases h
        · cases h
      · cases h
    · cases h
  · -- invokestatic
    split at h
    · next hn =>
      subst hn
      split at h
      · next o1 idx y' o4 hR =>
        split at h
        · cases h
        · next k hk =>
          split at h
          · next hkl =>
            obtain ⟨rfl, rfl, hfr2, q2, hq2, hcat, hlen, hml2, h13⟩ := mCall_inj h
            have hY := mjY_eq hq2
            have ho := mjR_own hR
            have hw := mjR_words hR
            dsimp only at ho hw
            obtain ⟨rfl, hw⟩ := hw
            subst ho
            obtain ⟨hcls, hmh1, hmh2⟩ := mjM_cls hq2
            have hG : GoodIn mjT (va_wsS (mjC q.2.2.2.2) idx q2.1 (mjMw q2 :: mjT)) := mEq2 (fun w hw2 => hw w (by show w ∈ mjWords (_, _, 2, _, _); simp only [mjWords, hY]; exact hw2)) (hcode q2 hq2 h13)
            have hPre := mPreS (vs := (st.take k).reverse) hD
            refine fin hfr2 (va_runS (As := mTs g (st.take k).reverse) ⟨hx, hb, hml, hown, hts⟩ (hM q2 hq2 hlen h13) (va_cwS k hts hG rfl rfl rfl ⟨hmh1, hmh2, by rw [← hY]; exact hk⟩ ⟨by show d' + 1 ≤ R.frames; omega, by show 8 + (q2.2.2.1 + 11) + 300 * d' ≤ R.locals; omega⟩) hPre rfl (by simp [mTs]; omega) hl.1 (mSplit st k) (lv_room (by rw [mTs_cat]; exact hcat)) hdg hroom)
          · cases h
      · next o1 idx y' o4 hR =>
        split at h
        · cases h
        · next k hk =>
          split at h
          · next hkl =>
            obtain ⟨rfl, rfl, hfr2, q2, hq2, hcat, hlen, hml2, h13⟩ := mCall_inj h
            have hY := mjY_eq hq2
            have ho := mjR_own hR
            have hw := mjR_words hR
            have hne := mjR_nest hR (Or.inl rfl)
            dsimp only at ho hw hne
            obtain ⟨rfl, hw⟩ := hw
            subst ho
            rw [hY] at hne
            obtain ⟨hcls, hmh1, hmh2⟩ := mjM_cls hq2
            have hin : ∀ w ∈ [Cond.static q2.1, .initialized q2.1.cls], w.before args s = true := fun w hw2 => hts w (hw w (by show w ∈ mjWords (_, _, 3, _, _); simp only [mjWords, hY]; exact hw2))
            have hPre := mPreS (vs := (st.take k).reverse) hD
            refine fin hfr2 (va_runSN (host := "BudgetHouse") (As := mTs g (st.take k).reverse) ⟨hx, hb, hml, hown, hts⟩ (hM q2 hq2 hlen h13) ⟨va_cnB k hts (mGood (hcode q2 hq2 h13)) rfl rfl rfl (hX.2.1 _ hne) (hin _ (List.mem_cons_of_mem _ List.mem_cons_self)) ⟨hmh1, hmh2, by rw [← hY]; exact hk⟩ ⟨by show d' + 1 ≤ R.frames; omega, by show 8 + (q2.2.2.1 + 11) + 300 * d' ≤ R.locals; omega⟩, hin _ List.mem_cons_self, trivial⟩ hPre rfl (by simp [mTs]; omega) hl.1 (mSplit st k) (lv_room (by rw [mTs_cat]; exact hcat)) hdg hroom)
          · cases h
      · split at h
        · split at h
          · exact (mGo_no h).elim
          · cases h
        · cases h
      · split at h
        · split at h
          · exact (mGo_no h).elim
          · cases h
        · cases h
      · cases h
    · cases h
  · -- invokespecial
    split at h
    · next hn =>
      subst hn
      split at h
      · next o1 idx y' o4 hR =>
        split at h
        · cases h
        · next k hk =>
          split at h
          · next rr rest hdrop =>
            split at h
            · next hkl =>
              obtain ⟨rfl, rfl, hfr2, q2, hq2, hcat, hlen, hml2, h13⟩ := mCall_inj h
              have hY := mjY_eq hq2
              have ho := mjR_own hR
              have hw := mjR_words hR
              have hini := mjR_ini hR (Or.inl rfl) hq2
              dsimp only at ho hw
              obtain ⟨rfl, hw⟩ := hw
              subst ho
              obtain ⟨hcls, hmh1, hmh2⟩ := mjM_cls hq2
              have hin : ∀ w ∈ [Cond.methodLink (mjC q.2.2.2.2) idx q2.1, .instanceMethod q2.1, .initialized q2.1.cls], w.before args s = true := fun w hw2 => hts w (hw w (by show w ∈ mjWords (_, _, 4, _, _); simp only [mjWords, hY]; exact hw2))
              have hPre := mPreS (vs := .ref rr :: (st.take k).reverse) hD
              have hvs : mTs g (.ref rr :: (st.take k).reverse) = .ref (mAd g rr) :: mTs g (st.take k).reverse := rfl
              rw [hvs] at hPre
              have hst : mTs g st = (mTs g (st.take k).reverse).reverse ++ .ref (mAd g rr) :: mTs g rest := by
                rw [mSplit st k, hdrop]; rfl
              refine fin hfr2 (va_runI (b := mAd g rr) (As := mTs g (st.take k).reverse) ⟨hx, hb, hml, hown, hts⟩ (hM q2 hq2 hlen h13) (cwI (bytes := q2.2.1) (maxL := q2.2.2.1) (ws' := mjT) k hts (mGood (hcode q2 hq2 h13)) (by rw [mjMw, hini.2]) rfl rfl (hin _ (List.mem_of_getElem? (i := 2) rfl)) (hin _ (List.mem_of_getElem? (i := 0) rfl)) (hin _ (List.mem_of_getElem? (i := 1) rfl)) hini.1 ⟨hmh1, hmh2, by rw [← hY]; exact hk⟩ ⟨by show d' + 1 ≤ R.frames; omega, by show 8 + (q2.2.2.1 + 11) + 300 * d' ≤ R.locals; omega⟩) hPre rfl (by simp [mTs]; omega) hl.1 hst (lv_room (by rw [mTs_cat]; exact hcat)) hdg hroom)
            · cases h
          · cases h
      · next o1 idx y' o4 hR =>
        split at h
        · cases h
        · next k hk =>
          split at h
          · next rr rest hdrop =>
            split at h
            · next hkl =>
              obtain ⟨rfl, rfl, hfr2, q2, hq2, hcat, hlen, hml2, h13⟩ := mCall_inj h
              have hY := mjY_eq hq2
              have ho := mjR_own hR
              have hw := mjR_words hR
              have hini := mjR_ini hR (Or.inr rfl) hq2
              have hne := mjR_nest hR (Or.inr rfl)
              dsimp only at ho hw hne
              obtain ⟨rfl, hw⟩ := hw
              subst ho
              rw [hY] at hne
              obtain ⟨hcls, hmh1, hmh2⟩ := mjM_cls hq2
              have hin : ∀ w ∈ [Cond.instanceMethod q2.1, .initialized q2.1.cls], w.before args s = true := fun w hw2 => hts w (hw w (by show w ∈ mjWords (_, _, 5, _, _); simp only [mjWords, hY]; exact hw2))
              have hPre := mPreS (vs := .ref rr :: (st.take k).reverse) hD
              have hvs : mTs g (.ref rr :: (st.take k).reverse) = .ref (mAd g rr) :: mTs g (st.take k).reverse := rfl
              rw [hvs] at hPre
              have hst : mTs g st = (mTs g (st.take k).reverse).reverse ++ .ref (mAd g rr) :: mTs g rest := by
                rw [mSplit st k, hdrop]; rfl
              refine fin hfr2 (va_runIN (host := "BudgetHouse") (b := mAd g rr) (As := mTs g (st.take k).reverse) ⟨hx, hb, hml, hown, hts⟩ (hM q2 hq2 hlen h13) ⟨va_cnB (bytes := q2.2.1) (maxL := q2.2.2.1) (ws' := mjT) k hts (mGood (hcode q2 hq2 h13)) (by rw [mjMw, hini.2]) rfl rfl (hX.2.1 _ hne) (hin _ (List.mem_of_getElem? (i := 1) rfl)) ⟨hmh1, hmh2, by rw [← hY]; exact hk⟩ ⟨by show d' + 1 ≤ R.frames; omega, by show 8 + (q2.2.2.1 + 11) + 300 * d' ≤ R.locals; omega⟩, hini.1, hin _ (List.mem_of_getElem? (i := 0) rfl)⟩ hPre rfl (by simp [mTs]; omega) hl.1 hst (lv_room (by rw [mTs_cat]; exact hcat)) hdg hroom)
            · cases h
          · cases h
      · split at h
        · split at h
          · exact (mGo_no h).elim
          · cases h
        · cases h
      · cases h
    · cases h
  · cases h
end MJZ
