/-! String.length of a text: its contract -/
theorem mGood {ws : List Cond} (h : ∀ w ∈ ws, w ∈ mjT) : GoodIn mjT ws := fun w hw => ⟨h w hw, good_of_word (List.mem_filter.mp (h w hw)).2⟩
theorem mjJ_d0 : decode mjQ_coder.2.1 0 = .ok (.getstatic 38, 3) := by decide +kernel
theorem mjJ_d3 : decode mjQ_coder.2.1 3 = .ok (.ifCond .eq 10, 3) := by decide +kernel
theorem mjJ_d6 : decode mjQ_coder.2.1 6 = .ok (.aload_n 0, 1) := by decide +kernel
theorem mjJ_d7 : decode mjQ_coder.2.1 7 = .ok (.getfield 15, 3) := by decide +kernel
theorem mjJ_d10 : decode mjQ_coder.2.1 10 = .ok (.goto 4, 3) := by decide +kernel
theorem mjJ_d14 : decode mjQ_coder.2.1 14 = .ok (.ireturn, 1) := by decide +kernel
theorem mjL_d0 : decode mjQ_length.2.1 0 = .ok (.aload_n 0, 1) := by decide +kernel
theorem mjL_d1 : decode mjQ_length.2.1 1 = .ok (.getfield 9, 3) := by decide +kernel
theorem mjL_d4 : decode mjQ_length.2.1 4 = .ok (.arraylength, 1) := by decide +kernel
theorem mjL_d5 : decode mjQ_length.2.1 5 = .ok (.aload_n 0, 1) := by decide +kernel
theorem mjL_d6 : decode mjQ_length.2.1 6 = .ok (.invokevirtual 335, 3) := by decide +kernel
theorem mjL_d9 : decode mjQ_length.2.1 9 = .ok (.ishr, 1) := by decide +kernel
theorem mjL_d10 : decode mjQ_length.2.1 10 = .ok (.ireturn, 1) := by decide +kernel
theorem mAdS {g : mG} {i : Nat} (h : i < 8) : mAd g (1 + i) = gK g i := by rw [mAd, if_neg (by omega), if_pos (by omega), show 1 + i - 1 = i by omega]
theorem mjNarB : narrow .byte (.int 0) = .int 0 := by decide +kernel
theorem mjShr : ∀ k ∈ mjLen, Int32.ofNat k >>> ((0 : Int32) &&& 31) = Int32.ofNat k := by decide +kernel
set_option maxHeartbeats 4000000 in
theorem mMet_coder (l : Launch) (g : mG) (d i : Nat) (hi : i < 8) (M : mHe) : Met l yJ0_coder_7d493 (mjMw mjQ_coder :: mjT) (mRm d 0 0) (mPc g [.ref (1 + i)] M) (mQ g (some (.int 0)) M) 0 0 (gO g) := by
  refine mMet (q := mjQ_coder) (by decide +kernel) rfl (Nat.le_of_ble_eq_true rfl) ?_
  intro p e s m below meth c ls F hD hl
  obtain ⟨hx, hb, hml, hown, hts, hr, hlk, hnm, hfr, hlo⟩ := id F
  obtain ⟨hsz, hP, hS, hX, hcl, hsl, hz⟩ := id hD
  have hl2 : lv_has ls 1 [(0, .ref (gK g i))] := by
    have h : mTl g (lv_args 0 [.ref (1 + i)]) = [(0, .ref (gK g i))] := by
      show [(0, Value.ref (mAd g (1 + i)))] = _
      rw [mAdS hi]
    rw [h] at hl
    exact hl
  have hin : ∀ w ∈ mjJw, w.before (mTs g [.ref (1 + i)]).toArray s = true := fun w hw => hts w (mjJw_in w hw)
  refine va_gets hx hb hX.2.2.2.2.1 hS hown (hin _ (List.mem_of_getElem? (i := 0) rfl)) (fun x h => h) mjJ_d0 ?_
  refine lv_if_eq (tgt := 13) hx hb mjJ_d3 (by decide) (fun z => absurd z (by decide)) (fun _ => ?_)
  refine lv_aload_n hx hb mjJ_d6 rfl (lv_at hl2 0 rfl) ?_
  refine vk_getf hx hb (hX.2.2.2.1.1 i hi).2.1 hS hown (hin _ (List.mem_of_getElem? (i := 1) rfl)) (fun x h => h) mjJ_d7 ?_
  refine lv_goto (tgt := 14) hx hb mjJ_d10 (by decide) ?_
  exact mRet (st := [.int 0]) (q := mjQ_coder) F hD mjJ_d14 (by simp only [mOp7, mjQ_coder, if_pos, mjNarB])
set_option maxHeartbeats 4000000 in
theorem mMet_length (l : Launch) (g : mG) (d i k : Nat) (hd : 2 ≤ d) (hk : mjLen[i]? = some k) (M : mHe) : Met l yJ0_length_8abf5 (mjMw mjQ_length :: mjT) (mRm d 0 0) (mPc g [.ref (1 + i)] M) (mQ g (some (.int (Int32.ofNat k))) M) 0 0 (gO g) := by
  have hi : i < 8 := (List.getElem?_eq_some_iff.mp hk).1
  refine mMet (q := mjQ_length) (by decide +kernel) rfl (Nat.le_of_ble_eq_true rfl) ?_
  intro p e s m below meth c ls F hD hl
  obtain ⟨hx, hb, hml, hown, hts, hr, hlk, hnm, hfr, hlo⟩ := id F
  obtain ⟨hsz, hP, hS, hX, hcl, hsl, hz⟩ := id hD
  have hl2 : lv_has ls 1 [(0, .ref (gK g i))] := by
    have h : mTl g (lv_args 0 [.ref (1 + i)]) = [(0, .ref (gK g i))] := by
      show [(0, Value.ref (mAd g (1 + i)))] = _
      rw [mAdS hi]
    rw [h] at hl
    exact hl
  have hin : ∀ w ∈ mjJw, w.before (mTs g [.ref (1 + i)]).toArray s = true := fun w hw => hts w (mjJw_in w hw)
  refine lv_aload_n hx hb mjL_d0 rfl (lv_at hl2 0 rfl) ?_
  refine vk_getf hx hb (hX.2.2.2.1.1 i hi).2.2.1 hS hown (hin _ (List.mem_of_getElem? (i := 2) rfl)) (fun x h => h) mjL_d1 ?_
  refine va_tlen hx hb (hX.2.2.2.1.1 i hi).2.2.2 hS rfl mjL_d4 ?_
  refine lv_aload_n hx hb mjL_d5 rfl (lv_at hl2 0 rfl) ?_
  have hkk : mjLen.getD i 0 = k := by rw [List.getD_eq_getElem?_getD, hk]; rfl
  rw [hkk]
  have hst : (.ref (gK g i) :: .int (Int32.ofNat k) :: [] : List Value) = ([] : List Value).reverse ++ .ref (gK g i) :: [.int (Int32.ofNat k)] := rfl
  obtain ⟨cellB, hcB, hoB, hclB, -⟩ := (hX.2.2.2.1.1 i hi).1
  have hPre := mPreS (vs := [.ref (1 + i)]) hD
  have e0 : mTs g [.ref (1 + i)] = [.ref (gK g i)] := by
    show [Value.ref (mAd g (1 + i))] = _
    rw [mAdS hi]
  rw [e0] at hPre
  have hG : GoodIn mjT (wsV RJ0 335 RJ0 yJ0_coder_7d493 (mjMw mjQ_coder :: mjT)) := mGood (fun w hw => by
    rcases List.mem_append.mp hw with h | h
    · exact mjJw_in w (List.mem_cons_of_mem _ (List.mem_cons_of_mem _ (List.mem_cons_of_mem _ h)))
    · rcases List.mem_cons.mp h with rfl | h
      · exact mjQ_coder_in
      · exact h)
  have hR := va_runV (R := mRm d 0 0) (cells := 0) (slots := 0) (C := RJ0) (b := gK g i) (As := []) (rest := [.int (Int32.ofNat k)]) (g := F0 m 6 ls (.ref (gK g i) :: [.int (Int32.ofNat k)])) (mc := 0) (ms := 0) (below := below) (meth := meth) (e := e) (H := s.heap) (locs := []) ⟨hx, hb, hml, hown, hts⟩ (mMet_coder l g 1 i hi M) (cwV 0 hts hG rfl rfl rfl (by decide +kernel) ⟨by show 1 + 1 ≤ d; omega, by show 8 + (1 + 11) + 300 * 1 ≤ 300 * d; omega⟩) ⟨hPre.1, ⟨cellB, hcB, hoB, hclB⟩, hPre.2⟩ rfl rfl hl.1 rfl (lv_room (Nat.le_of_ble_eq_true rfl)) mjL_d6 ⟨Nat.le_of_ble_eq_true rfl, Nat.le_of_ble_eq_true rfl⟩
  refine mRunW hR hD (by omega) (by omega) (fun H1 locs1 hD1 => ?_)
  refine lv_ishr hx hb mjL_d9 ?_
  rw [mjShr k (List.mem_of_getElem? hk)]
  exact mRet (st := [.int (Int32.ofNat k)]) (q := mjQ_length) F hD1 mjL_d10 (by simp [mOp7, mjQ_length, narrow])
theorem mMet_charAt (l : Launch) (g : mG) (d i : Nat) (hd : 5 ≤ d) (hi : i < 8) {ix b : Int32} (h0 : ¬ ix < 0) (hb : ((mjByt[i]?).getD [])[ix.toNatClampNeg]? = some b) (M : mHe) : Met l yJ0_charAt_5068e (mjMw mjQ_charAt :: mjT) (mRm d 0 0) (mPc g [.ref (1 + i), .int ix] M) (mQ g (some (.int b)) M) 0 0 (gO g) := sorry
