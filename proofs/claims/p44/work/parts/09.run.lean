/-! WHAT THE SMALL MACHINE DOES, THE REAL ONE DOES -/
section MJR
variable {p : Program} {l : Launch} {e : Env} {R : Room} {s : State} {m : MethodId} {args : Array Value} {below : List Frame} {meth : Method} {c : Code} {H : Heap} {locs : List Loc} {cells slots k0 s0 : Nat} {Q : State → Prop}
variable {g : mG} {d : Nat} {q : mMd} {y y' pc pc' n : Nat} {lv lv' : List (Nat × Value)} {st st' : List Value} {M M' : mHe} {i : Instr} {ls : Array Slot}
theorem mEq2 {a b : List Cond} (ha : ∀ w ∈ a, w ∈ mjT) (hb : ∀ w ∈ b, w ∈ mjT) : GoodIn mjT (a ++ b) := mGood (fun w hw => (List.mem_append.mp hw).elim (ha w) (hb w))
set_option maxHeartbeats 4000000 in
/-- calls that the small machine answers itself -/
theorem mOp6_W (F : mFx g p s m args meth c R d q) (hdg : decode q.2.1 pc = .ok (i, n)) (hl : lv_has ls q.2.2.1 (mTl g lv))
    (hD : mDy g s H locs M cells slots k0 s0) (hrc : M.length ≤ R.cells + k0) (hrs : mSl M ≤ R.slots + s0)
    (h : mOp6 d q.2.2.2.2 y pc n lv st M i = some (.inl ((y', pc', lv', st'), M')))
    (kk : y' = y → ∀ (ls' : Array Slot) (H' : Heap) (locs' : List Loc) (cells' slots' : Nat), lv_has ls' q.2.2.1 (mTl g lv') → mDy g s H' locs' M' cells' slots' k0 s0 → W p l e R s m args below meth c H' locs' cells' slots' Q (F0 m pc' ls' (mTs g st'))) : W p l e R s m args below meth c H locs cells slots Q (F0 m pc ls (mTs g st)) := by
  obtain ⟨hx, hb, hml, hown, hts, hr, hlk, hnm, hfr, hlo⟩ := F
  obtain ⟨hsz, hP, hS, hX, hcl, hsl, hz⟩ := id hD
  have hcall : ∀ {y2 pc2 : Nat} {lv2 : List (Nat × Value)} {rest : List Value} {N : mHe} {y3 : Nat} {vs : List Value} {x : mFr × mHe}, mCall y2 pc2 lv2 rest N y3 vs ≠ some (.inl x) := by
    intro y2 pc2 lv2 rest N y3 vs x hh
    unfold mCall at hh
    split at hh
    · cases hh
    · split at hh <;> cases hh
  unfold mOp6 at h
  split at h
  · -- invokevirtual
    split at h
    · next hn =>
      subst hn
      split at h
      · split at h
        · cases h
        · split at h
          · split at h
            · split at h
              · split at h
                · exact absurd h hcall
                · cases h
              · cases h
            · cases h
          · cases h
      · next o1 o2 o3 o4 hR =>
        split at h
        · next r rest =>
          split at h
          · next hc =>
            obtain ⟨h1, h2, h3, h4⟩ := hc
            split at h
            · next k hk =>
              obtain ⟨e1, rfl, rfl, rfl, rfl⟩ := mGo_inj h
              have ho := mjR_own hR
              have hw := mjR_words hR
              dsimp only at ho hw
              obtain ⟨rfl, hw⟩ := hw
              subst ho
              have h1 : (1 : Nat) ≤ (r : Nat) := h1
              have h2 : (r : Nat) < (9 : Nat) := h2
              obtain ⟨j, hj⟩ : ∃ j : Nat, j = r - 1 := ⟨_, rfl⟩
              have hr1 : r = 1 + j := by rw [hj]; exact (Nat.add_sub_cancel' h1).symm
              have hi : j < 8 := by rw [hj]; exact Nat.sub_lt_left_of_lt_add h1 h2
              rw [← hj] at hk
              subst hr1
              clear hj
              have e0 : ∀ t : List Value, mTs g (.ref (1 + j) :: t) = .ref (gK g j) :: mTs g t := by
                intro t
                show Value.ref (mAd g (1 + j)) :: _ = _
                rw [mAdS hi]; rfl
              have hPre := mPreS (vs := [.ref (1 + j)]) hD
              rw [e0] at hPre
              rw [e0]
              obtain ⟨cellB, hcB, hoB, hclB, -⟩ := (hX.2.2.2.1.1 j hi).1
              have hG : GoodIn mjT (wsV (mjC q.2.2.2.2) o2 mjYlen.cls mjYlen (mjMw mjQ_length :: mjT)) := mEq2 (fun w hw2 => hw w hw2) (fun w hw2 => by
                rcases List.mem_cons.mp hw2 with rfl | hw2
                · exact mjQ_length_in
                · exact hw2)
              have hRun := va_runV (R := R) (cells := cells) (slots := slots) (C := mjYlen.cls) (b := gK g j) (As := []) (rest := mTs g rest) (g := F0 m pc ls (.ref (gK g j) :: mTs g rest)) (mc := 0) (ms := 0) (below := below) (meth := meth) (e := e) (H := H) (locs := locs) ⟨hx, hb, hml, hown, hts⟩ (mMet_length l g 2 j k (Nat.le_refl _) hk M') (cwV 0 hts hG rfl rfl rfl (by decide +kernel) ⟨by show 2 + 1 ≤ R.frames; omega, by show 8 + (1 + 11) + 300 * 2 ≤ R.locals; omega⟩) ⟨hPre.1, ⟨cellB, hcB, hoB, hclB⟩, hPre.2⟩ rfl rfl hl.1 rfl (lv_room (by rw [mTs_cat]; exact h3)) hdg ⟨by omega, by omega⟩
              exact mRunW hRun hD (by omega) (by omega) (fun H1 locs1 hD1 => kk e1 ls H1 locs1 (cells + 0) (slots + 0) hl hD1)
            · cases h
          · cases h
        · cases h
      · next o1 o2 o3 o4 hR =>
        split at h
        · next ix r rest =>
          split at h
          · next hc =>
            obtain ⟨h1, h2, h3, h4, h5⟩ := hc
            split at h
            · next b hb1 =>
              obtain ⟨e1, rfl, rfl, rfl, rfl⟩ := mGo_inj h
              have ho := mjR_own hR
              have hw := mjR_words hR
              dsimp only at ho hw
              obtain ⟨rfl, hw⟩ := hw
              subst ho
              have h1 : (1 : Nat) ≤ (r : Nat) := h1
              have h2 : (r : Nat) < (9 : Nat) := h2
              obtain ⟨j, hj⟩ : ∃ j : Nat, j = r - 1 := ⟨_, rfl⟩
              have hr1 : r = 1 + j := by rw [hj]; exact (Nat.add_sub_cancel' h1).symm
              have hi : j < 8 := by rw [hj]; exact Nat.sub_lt_left_of_lt_add h1 h2
              rw [← hj] at hb1
              subst hr1
              clear hj
              have e0 : ∀ t : List Value, mTs g (.ref (1 + j) :: t) = .ref (gK g j) :: mTs g t := by
                intro t
                show Value.ref (mAd g (1 + j)) :: _ = _
                rw [mAdS hi]; rfl
              have hPre := mPreS (vs := [.ref (1 + j), .int ix]) hD
              have e1' : mTs g [.int ix] = [.int ix] := rfl
              rw [e0, e1'] at hPre
              have e2 : mTs g (.int ix :: .ref (1 + j) :: rest) = ([.int ix] : List Value).reverse ++ .ref (gK g j) :: mTs g rest := by
                show Value.int ix :: mTs g (.ref (1 + j) :: rest) = _
                rw [e0]; rfl
              obtain ⟨cellB, hcB, hoB, hclB, -⟩ := (hX.2.2.2.1.1 j hi).1
              have hG : GoodIn mjT (wsV (mjC q.2.2.2.2) o2 mjYchr.cls mjYchr (mjMw mjQ_charAt :: mjT)) := mEq2 (fun w hw2 => hw w hw2) (fun w hw2 => by
                rcases List.mem_cons.mp hw2 with rfl | hw2
                · exact mjQ_charAt_in
                · exact hw2)
              have hRun := va_runV (R := R) (cells := cells) (slots := slots) (C := mjYchr.cls) (b := gK g j) (As := [.int ix]) (rest := mTs g rest) (g := F0 m pc ls (mTs g (.int ix :: .ref (1 + j) :: rest))) (mc := 0) (ms := 0) (below := below) (meth := meth) (e := e) (H := H) (locs := locs) ⟨hx, hb, hml, hown, hts⟩ (mMet_charAt l g 5 j (Nat.le_refl _) hi h5 hb1 M') (cwV 1 hts hG rfl rfl rfl (by decide +kernel) ⟨by show 5 + 1 ≤ R.frames; omega, by show 8 + (2 + 11) + 300 * 5 ≤ R.locals; omega⟩) ⟨hPre.1, ⟨cellB, hcB, hoB, hclB⟩, hPre.2⟩ rfl rfl hl.1 e2 (lv_room (by rw [mTs_cat]; exact h3)) hdg ⟨by omega, by omega⟩
              exact mRunW hRun hD (by omega) (by omega) (fun H1 locs1 hD1 => kk e1 ls H1 locs1 (cells + 0) (slots + 0) hl hD1)
            · cases h
          · cases h
        · cases h
      · cases h
    · cases h
  · -- invokestatic
    split at h
    · next hn =>
      subst hn
      split at h
      · split at h
        · cases h
        · split at h
          · exact absurd h hcall
          · cases h
      · split at h
        · cases h
        · split at h
          · exact absurd h hcall
          · cases h
      · next o1 o2 o3 o4 hR =>
        split at h
        · next b a rest =>
          split at h
          · next hc =>
            obtain ⟨h1, h2⟩ := hc
            obtain ⟨e1, rfl, rfl, rfl, rfl⟩ := mGo_inj h
            have ho := mjR_own hR
            have hw := mjR_words hR
            dsimp only at ho hw
            obtain ⟨rfl, hw⟩ := hw
            subst ho
            have hin := fun w hw2 => hts w (hw w hw2)
            exact va_mmax (rest := mTs g rest) hx hb (by rw [hml, hl.1]) hown (hin _ (List.mem_of_getElem? (i := 0) rfl)) (hin _ (List.mem_of_getElem? (i := 1) rfl)) (hin _ (List.mem_of_getElem? (i := 2) rfl)) (hin _ (List.mem_of_getElem? (i := 3) rfl)) (by omega) (by rw [mTs_cat]; omega) (by omega) (by omega) hdg (kk e1 ls H locs cells slots hl hD)
          · cases h
        · cases h
      · next o1 o2 o3 o4 hR =>
        split at h
        · next b a rest =>
          split at h
          · next hc =>
            obtain ⟨h1, h2⟩ := hc
            obtain ⟨e1, rfl, rfl, rfl, rfl⟩ := mGo_inj h
            have ho := mjR_own hR
            have hw := mjR_words hR
            dsimp only at ho hw
            obtain ⟨rfl, hw⟩ := hw
            subst ho
            have hin := fun w hw2 => hts w (hw w hw2)
            exact va_mmin (rest := mTs g rest) hx hb (by rw [hml, hl.1]) hown (hin _ (List.mem_of_getElem? (i := 0) rfl)) (hin _ (List.mem_of_getElem? (i := 1) rfl)) (hin _ (List.mem_of_getElem? (i := 2) rfl)) (hin _ (List.mem_of_getElem? (i := 3) rfl)) (by omega) (by rw [mTs_cat]; omega) (by omega) (by omega) hdg (kk e1 ls H locs cells slots hl hD)
          · cases h
        · cases h
      · cases h
    · cases h
  · -- invokespecial
    split at h
    · next hn =>
      subst hn
      split at h
      · split at h
        · cases h
        · split at h
          · split at h
            · exact absurd h hcall
            · cases h
          · cases h
      · split at h
        · cases h
        · split at h
          · split at h
            · exact absurd h hcall
            · cases h
          · cases h
      · next o1 o2 o3 o4 hR =>
        split at h
        · next r rest =>
          split at h
          · next hc =>
            obtain ⟨h1, h2⟩ := hc
            obtain ⟨e1, rfl, rfl, rfl, rfl⟩ := mGo_inj h
            have ho := mjR_own hR
            have hw := mjR_words hR
            dsimp only at ho hw
            obtain ⟨rfl, hw⟩ := hw
            subst ho
            have hin := fun w hw2 => hts w (hw w hw2)
            refine W.objInit (a := mAd g r) (rest := mTs g st') hx hb hown (hin _ (List.mem_of_getElem? (i := 0) rfl)) (hin _ (List.mem_of_getElem? (i := 1) rfl)) (hin _ (List.mem_of_getElem? (i := 2) rfl)) rfl (by rw [hml, ← hl.1]) rfl hdg (by omega) (by
              show 2 * 0 + _ + 12 ≤ R.locals
              rw [mTs_cat]; omega) ?_
            exact kk e1 ls H locs cells slots hl hD
          · cases h
        · cases h
      · cases h
    · cases h
  · cases h
end MJR
