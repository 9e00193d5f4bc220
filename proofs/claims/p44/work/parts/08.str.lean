/-! String.length of a text: its contract -/
theorem mGood {ws : List Cond} (h : ∀ w ∈ ws, w ∈ mjT) : GoodIn mjT ws := fun w hw => ⟨h w hw, good_of_word (List.mem_filter.mp (h w hw)).2⟩
theorem mjJ_d0 : decode mjQ_coder.2.1 0 = .ok (.getstatic 38, 3) := by decide +kernel
theorem mjJ_d3 : decode mjQ_coder.2.1 3 = .ok (.ifCond .eq 10, 3) := by decide +kernel
theorem mjJ_d6 : decode mjQ_coder.2.1 6 = .ok (.aload_n 0, 1) := by decide +kernel
theorem mjJ_d7 : decode mjQ_coder.2.1 7 = .ok (.getfield 15, 3) := by decide +kernel
theorem mjJ_d10 : decode mjQ_coder.2.1 10 = .ok (.goto 4, 3) := by decide +kernel
theorem mjJ_d14 : decode mjQ_coder.2.1 14 = .ok (.ireturn, 1) := by decide +kernel
theorem mjL_d0 : decode mjQ_length.2.1 0 = .ok (.aload_n 0, 1) := by decide +kernel
theorem mjL_d1 : decode mjQ_length.2.1 1 = .ok (.getfield 9, 3) := by decide +kernel
theorem mjL_d4 : decode mjQ_length.2.1 4 = .ok (.arraylength, 1) := by decide +kernel
theorem mjL_d5 : decode mjQ_length.2.1 5 = .ok (.aload_n 0, 1) := by decide +kernel
theorem mjL_d6 : decode mjQ_length.2.1 6 = .ok (.invokevirtual 335, 3) := by decide +kernel
theorem mjL_d9 : decode mjQ_length.2.1 9 = .ok (.ishr, 1) := by decide +kernel
theorem mjL_d10 : decode mjQ_length.2.1 10 = .ok (.ireturn, 1) := by decide +kernel
theorem mAdS {g : mG} {i : Nat} (h : i < 8) : mAd g (1 + i) = gK g i := by rw [mAd, if_neg (by omega), if_pos (by omega), show 1 + i - 1 = i by omega]
theorem mjNarB : narrow .byte (.int 0) = .int 0 := by decide +kernel
theorem mjShr : ∀ k ∈ mjLen, Int32.ofNat k >>> ((0 : Int32) &&& 31) = Int32.ofNat k := by decide +kernel
set_option maxHeartbeats 4000000 in
theorem mMet_coder (l : Launch) (g : mG) (d i : Nat) (hi : i < 8) (M : mHe) : Met l yJ0_coder_7d493 (mjMw mjQ_coder :: mjT) (mRm d 0 0) (mPc g [.ref (1 + i)] M) (mQ g (some (.int 0)) M) 0 0 (gO g) := by
  refine mMet (q := mjQ_coder) (by decide +kernel) rfl (Nat.le_of_ble_eq_true rfl) ?_
  intro p e s m below meth c ls F hD hl
  obtain ⟨hx, hb, hml, hown, hts, hr, hlk, hnm, hfr, hlo⟩ := id F
  obtain ⟨hsz, hP, hS, hX, hcl, hsl, hz⟩ := id hD
  have hl2 : lv_has ls 1 [(0, .ref (gK g i))] := by
    have h : mTl g (lv_args 0 [.ref (1 + i)]) = [(0, .ref (gK g i))] := by
      show [(0, Value.ref (mAd g (1 + i)))] = _
      rw [mAdS hi]
    rw [h] at hl
    exact hl
  have hin : ∀ w ∈ mjJw, w.before (mTs g [.ref (1 + i)]).toArray s = true := fun w hw => hts w (mjJw_in w hw)
  refine va_gets hx hb hX.2.2.2.2.1 hS hown (hin _ (List.mem_of_getElem? (i := 0) rfl)) (fun x h => h) mjJ_d0 ?_
  refine lv_if_eq (tgt := 13) hx hb mjJ_d3 (by decide) (fun z => absurd z (by decide)) (fun _ => ?_)
  refine lv_aload_n hx hb mjJ_d6 rfl (lv_at hl2 0 rfl) ?_
  refine vk_getf hx hb (hX.2.2.2.1.1 i hi).2.1 hS hown (hin _ (List.mem_of_getElem? (i := 1) rfl)) (fun x h => h) mjJ_d7 ?_
  refine lv_goto (tgt := 14) hx hb mjJ_d10 (by decide) ?_
  exact mRet (st := [.int 0]) (q := mjQ_coder) F hD mjJ_d14 (by simp only [mOp7, mjQ_coder, if_pos, mjNarB])
set_option maxHeartbeats 4000000 in
theorem mMet_length (l : Launch) (g : mG) (d i k : Nat) (hd : 2 ≤ d) (hk : mjLen[i]? = some k) (M : mHe) : Met l yJ0_length_8abf5 (mjMw mjQ_length :: mjT) (mRm d 0 0) (mPc g [.ref (1 + i)] M) (mQ g (some (.int (Int32.ofNat k))) M) 0 0 (gO g) := by
  have hi : i < 8 := (List.getElem?_eq_some_iff.mp hk).1
  refine mMet (q := mjQ_length) (by decide +kernel) rfl (Nat.le_of_ble_eq_true rfl) ?_
  intro p e s m below meth c ls F hD hl
  obtain ⟨hx, hb, hml, hown, hts, hr, hlk, hnm, hfr, hlo⟩ := id F
  obtain ⟨hsz, hP, hS, hX, hcl, hsl, hz⟩ := id hD
  have hl2 : lv_has ls 1 [(0, .ref (gK g i))] := by
    have h : mTl g (lv_args 0 [.ref (1 + i)]) = [(0, .ref (gK g i))] := by
      show [(0, Value.ref (mAd g (1 + i)))] = _
      rw [mAdS hi]
    rw [h] at hl
    exact hl
  have hin : ∀ w ∈ mjJw, w.before (mTs g [.ref (1 + i)]).toArray s = true := fun w hw => hts w (mjJw_in w hw)
  refine lv_aload_n hx hb mjL_d0 rfl (lv_at hl2 0 rfl) ?_
  refine vk_getf hx hb (hX.2.2.2.1.1 i hi).2.2.1 hS hown (hin _ (List.mem_of_getElem? (i := 2) rfl)) (fun x h => h) mjL_d1 ?_
  refine va_tlen hx hb (hX.2.2.2.1.1 i hi).2.2.2 hS rfl mjL_d4 ?_
  refine lv_aload_n hx hb mjL_d5 rfl (lv_at hl2 0 rfl) ?_
  have hkk : mjLen.getD i 0 = k := by rw [List.getD_eq_getElem?_getD, hk]; rfl
  rw [hkk]
  have hst : (.ref (gK g i) :: .int (Int32.ofNat k) :: [] : List Value) = ([] : List Value).reverse ++ .ref (gK g i) :: [.int (Int32.ofNat k)] := rfl
  obtain ⟨cellB, hcB, hoB, hclB, -⟩ := (hX.2.2.2.1.1 i hi).1
  have hPre := mPreS (vs := [.ref (1 + i)]) hD
  have e0 : mTs g [.ref (1 + i)] = [.ref (gK g i)] := by
    show [Value.ref (mAd g (1 + i))] = _
    rw [mAdS hi]
  rw [e0] at hPre
  have hG : GoodIn mjT (wsV RJ0 335 RJ0 yJ0_coder_7d493 (mjMw mjQ_coder :: mjT)) := mGood (fun w hw => by
    rcases List.mem_append.mp hw with h | h
    · exact mjJw_in w (List.mem_cons_of_mem _ (List.mem_cons_of_mem _ (List.mem_cons_of_mem _ h)))
    · rcases List.mem_cons.mp h with rfl | h
      · exact mjQ_coder_in
      · exact h)
  have hR := va_runV (R := mRm d 0 0) (cells := 0) (slots := 0) (C := RJ0) (b := gK g i) (As := []) (rest := [.int (Int32.ofNat k)]) (g := F0 m 6 ls (.ref (gK g i) :: [.int (Int32.ofNat k)])) (mc := 0) (ms := 0) (below := below) (meth := meth) (e := e) (H := s.heap) (locs := []) ⟨hx, hb, hml, hown, hts⟩ (mMet_coder l g 1 i hi M) (cwV 0 hts hG rfl rfl rfl (by decide +kernel) ⟨by show 1 + 1 ≤ d; omega, by show 8 + (1 + 11) + 300 * 1 ≤ 300 * d; omega⟩) ⟨hPre.1, ⟨cellB, hcB, hoB, hclB⟩, hPre.2⟩ rfl rfl hl.1 rfl (lv_room (Nat.le_of_ble_eq_true rfl)) mjL_d6 ⟨Nat.le_of_ble_eq_true rfl, Nat.le_of_ble_eq_true rfl⟩
  refine mRunW hR hD (by omega) (by omega) (fun H1 locs1 hD1 => ?_)
  refine lv_ishr hx hb mjL_d9 ?_
  rw [mjShr k (List.mem_of_getElem? hk)]
  exact mRet (st := [.int (Int32.ofNat k)]) (q := mjQ_length) F hD1 mjL_d10 (by simp [mOp7, mjQ_length, narrow])
set_option maxHeartbeats 4000000 in
/-- the same, with arguments that bear no numbers -/
theorem mMetR {l : Launch} {g : mG} {q : mMd} {d mc ms : Nat} {as : List Value} {M M' : mHe} {r : Option Value} (hpl : Jvm.plainName q.1.cls = true) (hown : mjC q.2.2.2.2 = q.1.cls) (hlen : (lg_sl as).length ≤ q.2.2.1)
    (body : ∀ (p : Program) (e : Env) (s : State) (m : MethodId) (below : List Frame) (meth : Method) (c : Code) (ls : Array Slot), mFx g p s m as.toArray meth c (mRm d mc ms) d q → mDy g s s.heap [] M 0 0 M.length (mSl M) → lv_has ls q.2.2.1 (lv_args 0 as) →
      W p l e (mRm d mc ms) s m as.toArray below meth c s.heap [] 0 0 (MQ below (mQ g r M') as.toArray s mc ms (gO g)) (F0 m 0 ls [])) :
    Met l q.1 (mjMw q :: mjT) (mRm d mc ms) (va_Pc as (fun U => mEnd g M U ∧ mX g U U.heap)) (mQ g r M') mc ms (gO g) := by
  refine Met.ofW (cc := q.2.1) (maxL := q.2.2.1) (ret := q.2.2.2.1) hpl rfl ?_
  intro p e s m args below meth c s₁ B hml hv
  obtain ⟨rfl, ⟨hsz, hP⟩, hX⟩ := hv
  have hts := atoms_spec (ws := mjMw q :: mjT) B.pre
  have ho : s.vm.findClass q.1.cls = some m.cls := findClass_of_methodNamed B.named
  have hl := lv_entry as (n := q.2.2.1) hlen
  rw [lg_entry_eq]
  exact body p e s m below meth c _ ⟨B.exec, B.bytes, hml, by rw [hown]; exact ho, fun w hw => hts w (List.mem_cons_of_mem _ hw), B.returns, B.notSynchronized, fun h => by rw [← h]; exact (name_of_methodNamed B.named B.method).1, Nat.le_refl _, Nat.le_refl _⟩ ⟨hsz, hP, va_S.rf, hX, by omega, by omega, hsz⟩ hl
theorem mPreR {as : List Value} {g : mG} {s : State} {H : Heap} {locs : List Loc} {M : mHe} {cells slots k0 s0 : Nat} (hD : mDy g s H locs M cells slots k0 s0) : PreS s H (va_Pc as (fun U => mEnd g M U ∧ mX g U U.heap)) as := by
  obtain ⟨hsz, hP, hS, hX, hcl, hsl, hz⟩ := hD
  refine ⟨fun a U jf mk q => ⟨q.1, q.2.1, mX_call q.2.2⟩, fun U hU hW => ⟨rfl, ⟨by rw [hU]; exact hsz, by rw [hU]; exact hP⟩, ?_⟩⟩
  rw [hU]
  exact mX_warm hW hX
theorem mjP_d0 : decode mjQ_preIndex.2.1 0 = .ok (.iload_n 0, 1) := by decide +kernel
theorem mjP_d1 : decode mjQ_preIndex.2.1 1 = .ok (.ifCond .lt 8, 3) := by decide +kernel
theorem mjP_d4 : decode mjQ_preIndex.2.1 4 = .ok (.iload_n 0, 1) := by decide +kernel
theorem mjP_d5 : decode mjQ_preIndex.2.1 5 = .ok (.iload_n 1, 1) := by decide +kernel
theorem mjP_d6 : decode mjQ_preIndex.2.1 6 = .ok (.if_icmp .lt 10, 3) := by decide +kernel
theorem mjP_d16 : decode mjQ_preIndex.2.1 16 = .ok (.iload_n 0, 1) := by decide +kernel
theorem mjP_d17 : decode mjQ_preIndex.2.1 17 = .ok (.ireturn, 1) := by decide +kernel
theorem mMet_pre (l : Launch) (g : mG) (d : Nat) {ix len : Int32} {z : Value} (hz : z = .null ∨ ∃ k : Nat, z = .ref k) (h0 : ¬ ix < 0) (h1 : ix < len) (M : mHe) : Met l mjQ_preIndex.1 (mjMw mjQ_preIndex :: mjT) (mRm d 0 0) (va_Pc [.int ix, .int len, z] (fun U => mEnd g M U ∧ mX g U U.heap)) (mQ g (some (.int ix)) M) 0 0 (gO g) := by
  rcases hz with rfl | ⟨k, rfl⟩
  · refine mMetR (q := mjQ_preIndex) (by decide +kernel) rfl (Nat.le_of_ble_eq_true rfl) ?_
    intro p e s m below meth c ls F hD hl
    obtain ⟨hx, hb, hml, hown, hts, hr, hlk, hnm, hfr, hlo⟩ := id F
    refine lv_iload_n hx hb mjP_d0 rfl (lv_at hl 0 rfl) ?_
    refine lv_if_lt (tgt := 9) hx hb mjP_d1 (by decide) (fun q => absurd q h0) (fun _ => ?_)
    refine lv_iload_n hx hb mjP_d4 rfl (lv_at hl 0 rfl) ?_
    refine lv_iload_n hx hb mjP_d5 rfl (lv_at hl 1 rfl) ?_
    refine lv_icmp_lt (tgt := 16) hx hb mjP_d6 (by decide) (fun _ => ?_) (fun q => absurd h1 q)
    refine lv_iload_n hx hb mjP_d16 rfl (lv_at hl 0 rfl) ?_
    exact mRet (st := [.int ix]) (q := mjQ_preIndex) F hD mjP_d17 (by simp [mOp7, mjQ_preIndex, narrow])
  · refine mMetR (q := mjQ_preIndex) (by decide +kernel) rfl (Nat.le_of_ble_eq_true rfl) ?_
    intro p e s m below meth c ls F hD hl
    obtain ⟨hx, hb, hml, hown, hts, hr, hlk, hnm, hfr, hlo⟩ := id F
    refine lv_iload_n hx hb mjP_d0 rfl (lv_at hl 0 rfl) ?_
    refine lv_if_lt (tgt := 9) hx hb mjP_d1 (by decide) (fun q => absurd q h0) (fun _ => ?_)
    refine lv_iload_n hx hb mjP_d4 rfl (lv_at hl 0 rfl) ?_
    refine lv_iload_n hx hb mjP_d5 rfl (lv_at hl 1 rfl) ?_
    refine lv_icmp_lt (tgt := 16) hx hb mjP_d6 (by decide) (fun _ => ?_) (fun q => absurd h1 q)
    refine lv_iload_n hx hb mjP_d16 rfl (lv_at hl 0 rfl) ?_
    exact mRet (st := [.int ix]) (q := mjQ_preIndex) F hD mjP_d17 (by simp [mOp7, mjQ_preIndex, narrow])
theorem mjI_d0 : decode mjQ_checkIndex.2.1 0 = .ok (.iload_n 0, 1) := by decide +kernel
theorem mjI_d1 : decode mjQ_checkIndex.2.1 1 = .ok (.iload_n 1, 1) := by decide +kernel
theorem mjI_d2 : decode mjQ_checkIndex.2.1 2 = .ok (.getstatic 1053, 3) := by decide +kernel
theorem mjI_d5 : decode mjQ_checkIndex.2.1 5 = .ok (.invokestatic 1059, 3) := by decide +kernel
theorem mjI_d8 : decode mjQ_checkIndex.2.1 8 = .ok (.pop, 1) := by decide +kernel
theorem mjI_d9 : decode mjQ_checkIndex.2.1 9 = .ok (.return_, 1) := by decide +kernel
theorem mjK_seg {w : Cond} {a b : List Cond} {seg : List Cond} (he : mjKw = a ++ (seg ++ b)) (h : w ∈ seg) : w ∈ mjT := mjKw_in w (by rw [he]; exact List.mem_append_right a (List.mem_append_left b h))
set_option maxHeartbeats 4000000 in
theorem mMet_chk (l : Launch) (g : mG) (d : Nat) (hd : 1 ≤ d) {ix len : Int32} (h0 : ¬ ix < 0) (h1 : ix < len) (M : mHe) : Met l mjQ_checkIndex.1 (mjMw mjQ_checkIndex :: mjT) (mRm d 0 0) (va_Pc [.int ix, .int len] (fun U => mEnd g M U ∧ mX g U U.heap)) (mQ g none M) 0 0 (gO g) := by
  refine mMetR (q := mjQ_checkIndex) (by decide +kernel) rfl (Nat.le_of_ble_eq_true rfl) ?_
  intro p e s m below meth c ls F hD hl
  obtain ⟨hx, hb, hml, hown, hts, hr, hlk, hnm, hfr, hlo⟩ := id F
  obtain ⟨hsz, hP, hS, hX, hcl, hsl, hz⟩ := id hD
  obtain ⟨z, hzz, hZ⟩ := hX.2.2.2.2.2
  rcases hzz with rfl | ⟨k, rfl⟩
  · refine lv_iload_n hx hb mjI_d0 rfl (lv_at hl 0 rfl) ?_
    refine lv_iload_n hx hb mjI_d1 rfl (lv_at hl 1 rfl) ?_
    refine va_gets hx hb hZ hS hown (hts _ (mjKw_in _ (List.mem_of_getElem? (i := 10) rfl))) (fun x h => h) mjI_d2 ?_
    have hG : GoodIn mjT (va_wsS RJ0 1059 mjQ_preIndex.1 (mjMw mjQ_preIndex :: mjT)) := mGood (fun w hw => by
      rcases List.mem_append.mp hw with h | h
      · exact mjK_seg (a := mjKw.take 11) (b := []) rfl h
      · rcases List.mem_cons.mp h with rfl | h
        · exact mjQ_preIndex_in
        · exact h)
    have hR := va_runS (R := mRm d 0 0) (cells := 0) (slots := 0) (As := [.int ix, .int len, .null]) (rest := []) (g := F0 m 5 ls [.null, .int len, .int ix]) (mc := 0) (ms := 0) (below := below) (meth := meth) (e := e) (H := s.heap) (locs := []) ⟨hx, hb, hml, hown, hts⟩ (mMet_pre l g 0 (Or.inl rfl) h0 h1 M) (va_cwS 3 hts hG rfl rfl rfl (by decide +kernel) ⟨by show 0 + 1 ≤ d; omega, by show 8 + (3 + 11) + 300 * 0 ≤ 300 * d; omega⟩) (mPreR hD) rfl rfl hl.1 rfl (lv_room (by decide)) mjI_d5 ⟨by show 0 + 0 ≤ 0; omega, by show 0 + 0 ≤ 0; omega⟩
    refine mRunW hR hD (by omega) (by omega) (fun H1 locs1 hD1 => ?_)
    refine lv_pop hx hb mjI_d8 rfl ?_
    exact mRet (st := []) (q := mjQ_checkIndex) F hD1 mjI_d9 (by simp [mOp7, mjQ_checkIndex])
  · refine lv_iload_n hx hb mjI_d0 rfl (lv_at hl 0 rfl) ?_
    refine lv_iload_n hx hb mjI_d1 rfl (lv_at hl 1 rfl) ?_
    refine va_gets hx hb hZ hS hown (hts _ (mjKw_in _ (List.mem_of_getElem? (i := 10) rfl))) (fun x h => h) mjI_d2 ?_
    have hG : GoodIn mjT (va_wsS RJ0 1059 mjQ_preIndex.1 (mjMw mjQ_preIndex :: mjT)) := mGood (fun w hw => by
      rcases List.mem_append.mp hw with h | h
      · exact mjK_seg (a := mjKw.take 11) (b := []) rfl h
      · rcases List.mem_cons.mp h with rfl | h
        · exact mjQ_preIndex_in
        · exact h)
    have hR := va_runS (R := mRm d 0 0) (cells := 0) (slots := 0) (As := [.int ix, .int len, .ref k]) (rest := []) (g := F0 m 5 ls [.ref k, .int len, .int ix]) (mc := 0) (ms := 0) (below := below) (meth := meth) (e := e) (H := s.heap) (locs := []) ⟨hx, hb, hml, hown, hts⟩ (mMet_pre l g 0 (Or.inr ⟨k, rfl⟩) h0 h1 M) (va_cwS 3 hts hG rfl rfl rfl (by decide +kernel) ⟨by show 0 + 1 ≤ d; omega, by show 8 + (3 + 11) + 300 * 0 ≤ 300 * d; omega⟩) (mPreR hD) rfl rfl hl.1 rfl (lv_room (by decide)) mjI_d5 ⟨by show 0 + 0 ≤ 0; omega, by show 0 + 0 ≤ 0; omega⟩
    refine mRunW hR hD (by omega) (by omega) (fun H1 locs1 hD1 => ?_)
    refine lv_pop hx hb mjI_d8 rfl ?_
    exact mRet (st := []) (q := mjQ_checkIndex) F hD1 mjI_d9 (by simp [mOp7, mjQ_checkIndex])
theorem mjC_d0 : decode mjQ_l1charAt.2.1 0 = .ok (.iload_n 1, 1) := by decide +kernel
theorem mjC_d1 : decode mjQ_l1charAt.2.1 1 = .ok (.aload_n 0, 1) := by decide +kernel
theorem mjC_d2 : decode mjQ_l1charAt.2.1 2 = .ok (.arraylength, 1) := by decide +kernel
theorem mjC_d3 : decode mjQ_l1charAt.2.1 3 = .ok (.invokestatic 9, 3) := by decide +kernel
theorem mjC_d6 : decode mjQ_l1charAt.2.1 6 = .ok (.aload_n 0, 1) := by decide +kernel
theorem mjC_d7 : decode mjQ_l1charAt.2.1 7 = .ok (.iload_n 1, 1) := by decide +kernel
theorem mjC_d8 : decode mjQ_l1charAt.2.1 8 = .ok (.baload, 1) := by decide +kernel
theorem mjC_d9 : decode mjQ_l1charAt.2.1 9 = .ok (.sipush 255, 3) := by decide +kernel
theorem mjC_d12 : decode mjQ_l1charAt.2.1 12 = .ok (.iand, 1) := by decide +kernel
theorem mjC_d13 : decode mjQ_l1charAt.2.1 13 = .ok (.i2c, 1) := by decide +kernel
theorem mjC_d14 : decode mjQ_l1charAt.2.1 14 = .ok (.ireturn, 1) := by decide +kernel
theorem mjChr : ∀ l ∈ mjByt, ∀ b ∈ l, ((b &&& 255).toUInt32 % 65536).toInt32 = b ∧ narrow .char (.int b) = .int b := by decide +kernel
theorem mjLen_byt : ∀ i : Fin 8, (mjByt.getD i []).length = mjLen.getD i 0 ∧ mjLen.getD i 0 < 10 := by decide +kernel
set_option maxHeartbeats 4000000 in
theorem mMet_l1 (l : Launch) (g : mG) (d i : Nat) (hd : 2 ≤ d) (hi : i < 8) {ix b : Int32} (h0 : ¬ ix < 0) (hb0 : (mjByt.getD i [])[ix.toNatClampNeg]? = some b) (M : mHe) : Met l mjQ_l1charAt.1 (mjMw mjQ_l1charAt :: mjT) (mRm d 0 0) (va_Pc [.ref (gV g i), .int ix] (fun U => mEnd g M U ∧ mX g U U.heap)) (mQ g (some (.int b)) M) 0 0 (gO g) := by
  have hll := mjLen_byt ⟨i, hi⟩
  simp only at hll
  have hlt : ix.toNatClampNeg < mjLen.getD i 0 := by rw [← hll.1]; exact (List.getElem?_eq_some_iff.mp hb0).1
  have hmem : mjByt.getD i [] ∈ mjByt := by
    have h8 : mjByt.length = 8 := rfl
    rw [List.getD_eq_getElem?_getD, List.getElem?_eq_getElem (by omega)]
    exact List.getElem_mem _
  obtain ⟨hc1, hc2⟩ := mjChr _ hmem b (List.mem_of_getElem? hb0)
  have h1 : ix < Int32.ofNat (mjLen.getD i 0) := by
    rw [Int32.lt_iff_toInt_lt, Int32.toInt_ofNat_of_lt (by omega)]
    have : ix.toNatClampNeg = ix.toInt.toNat := rfl
    omega
  refine mMetR (q := mjQ_l1charAt) (by decide +kernel) rfl (Nat.le_of_ble_eq_true rfl) ?_
  intro p e s m below meth c ls F hD hl
  obtain ⟨hx, hb, hml, hown, hts, hr, hlk, hnm, hfr, hlo⟩ := id F
  obtain ⟨hsz, hP, hS, hX, hcl, hsl, hz⟩ := id hD
  refine lv_iload_n hx hb mjC_d0 rfl (lv_at hl 1 rfl) ?_
  refine lv_aload_n hx hb mjC_d1 rfl (lv_at hl 0 rfl) ?_
  refine va_tlen hx hb (hX.2.2.2.1.1 i hi).2.2.2 hS rfl mjC_d2 ?_
  have hG : GoodIn mjT (va_wsS RJ1 9 mjQ_checkIndex.1 (mjMw mjQ_checkIndex :: mjT)) := mGood (fun w hw => by
    rcases List.mem_append.mp hw with h | h
    · exact mjK_seg (a := mjKw.take 7) (b := mjKw.drop 10) rfl h
    · rcases List.mem_cons.mp h with rfl | h
      · exact mjQ_checkIndex_in
      · exact h)
  have hR := va_runS (R := mRm d 0 0) (cells := 0) (slots := 0) (As := [.int ix, .int (Int32.ofNat (mjLen.getD i 0))]) (rest := []) (g := F0 m 3 ls [.int (Int32.ofNat (mjLen.getD i 0)), .int ix]) (mc := 0) (ms := 0) (below := below) (meth := meth) (e := e) (H := s.heap) (locs := []) ⟨hx, hb, hml, hown, hts⟩ (mMet_chk l g 1 (Nat.le_refl 1) h0 h1 M) (va_cwS 2 hts hG rfl rfl rfl (by decide +kernel) ⟨by show 1 + 1 ≤ d; omega, by show 8 + (2 + 11) + 300 * 1 ≤ 300 * d; omega⟩) (mPreR hD) rfl rfl hl.1 rfl (lv_room (by decide)) mjC_d3 ⟨by show 0 + 0 ≤ 0; omega, by show 0 + 0 ≤ 0; omega⟩
  refine mRunW hR hD (by omega) (by omega) (fun H1 locs1 hD1 => ?_)
  obtain ⟨hsz1, hP1, hS1, hX1, hcl1, hsl1, hz1⟩ := id hD1
  refine lv_aload_n hx hb mjC_d6 rfl (lv_at hl 0 rfl) ?_
  refine lv_iload_n hx hb mjC_d7 rfl (lv_at hl 1 rfl) ?_
  have hTb := (hX.2.2.2.1.1 i hi).2.2.2
  refine va_tb hx hb hTb hS1 (i := ix) (fun q => q.elim h0 (fun q => by omega)) (v := .int b) (by show Value.int ((mjByt.getD i []).getD ix.toNatClampNeg 0) = _; rw [List.getD_eq_getElem?_getD (l := mjByt.getD i []), hb0]; rfl) mjC_d8 ?_
  refine lv_sipush hx hb mjC_d9 rfl ?_
  refine lv_iand hx hb mjC_d12 ?_
  refine lv_i2c hx hb mjC_d13 hc1 ?_
  exact mRet (st := [.int b]) (q := mjQ_l1charAt) F hD1 mjC_d14 (by simp [mOp7, mjQ_l1charAt, hc2])
theorem mjN_d0 : decode mjQ_isLatin1.2.1 0 = .ok (.getstatic 38, 3) := by decide +kernel
theorem mjN_d3 : decode mjQ_isLatin1.2.1 3 = .ok (.ifCond .eq 14, 3) := by decide +kernel
theorem mjN_d6 : decode mjQ_isLatin1.2.1 6 = .ok (.aload_n 0, 1) := by decide +kernel
theorem mjN_d7 : decode mjQ_isLatin1.2.1 7 = .ok (.getfield 15, 3) := by decide +kernel
theorem mjN_d10 : decode mjQ_isLatin1.2.1 10 = .ok (.ifCond .ne 7, 3) := by decide +kernel
theorem mjN_d13 : decode mjQ_isLatin1.2.1 13 = .ok (.iconst 1, 1) := by decide +kernel
theorem mjN_d14 : decode mjQ_isLatin1.2.1 14 = .ok (.goto 4, 3) := by decide +kernel
theorem mjN_d18 : decode mjQ_isLatin1.2.1 18 = .ok (.ireturn, 1) := by decide +kernel
theorem mjNarZ : narrow .boolean (.int 1) = .int 1 := by decide +kernel
set_option maxHeartbeats 4000000 in
theorem mMet_isL (l : Launch) (g : mG) (d i : Nat) (hi : i < 8) (M : mHe) : Met l yJ0_isLatin1_aae02 (mjMw mjQ_isLatin1 :: mjT) (mRm d 0 0) (mPc g [.ref (1 + i)] M) (mQ g (some (.int 1)) M) 0 0 (gO g) := by
  refine mMet (q := mjQ_isLatin1) (by decide +kernel) rfl (Nat.le_of_ble_eq_true rfl) ?_
  intro p e s m below meth c ls F hD hl
  obtain ⟨hx, hb, hml, hown, hts, hr, hlk, hnm, hfr, hlo⟩ := id F
  obtain ⟨hsz, hP, hS, hX, hcl, hsl, hz⟩ := id hD
  have hl2 : lv_has ls 1 [(0, .ref (gK g i))] := by
    have h : mTl g (lv_args 0 [.ref (1 + i)]) = [(0, .ref (gK g i))] := by
      show [(0, Value.ref (mAd g (1 + i)))] = _
      rw [mAdS hi]
    rw [h] at hl
    exact hl
  have hin : ∀ w ∈ mjJw, w.before (mTs g [.ref (1 + i)]).toArray s = true := fun w hw => hts w (mjJw_in w hw)
  refine va_gets hx hb hX.2.2.2.2.1 hS hown (hin _ (List.mem_of_getElem? (i := 0) rfl)) (fun x h => h) mjN_d0 ?_
  refine lv_if_eq (tgt := 17) hx hb mjN_d3 (by decide) (fun z => absurd z (by decide)) (fun _ => ?_)
  refine lv_aload_n hx hb mjN_d6 rfl (lv_at hl2 0 rfl) ?_
  refine vk_getf hx hb (hX.2.2.2.1.1 i hi).2.1 hS hown (hin _ (List.mem_of_getElem? (i := 1) rfl)) (fun x h => h) mjN_d7 ?_
  refine lv_if_ne (tgt := 17) hx hb mjN_d10 (by decide) (fun z => absurd rfl z) (fun _ => ?_)
  refine lv_iconst hx hb mjN_d13 rfl ?_
  refine lv_goto (tgt := 18) hx hb mjN_d14 (by decide) ?_
  exact mRet (st := [.int 1]) (q := mjQ_isLatin1) F hD mjN_d18 (by simp only [mOp7, mjQ_isLatin1, if_pos, mjNarZ])
theorem mjH_d0 : decode mjQ_charAt.2.1 0 = .ok (.aload_n 0, 1) := by decide +kernel
theorem mjH_d1 : decode mjQ_charAt.2.1 1 = .ok (.invokevirtual 492, 3) := by decide +kernel
theorem mjH_d4 : decode mjQ_charAt.2.1 4 = .ok (.ifCond .eq 12, 3) := by decide +kernel
theorem mjH_d7 : decode mjQ_charAt.2.1 7 = .ok (.aload_n 0, 1) := by decide +kernel
theorem mjH_d8 : decode mjQ_charAt.2.1 8 = .ok (.getfield 9, 3) := by decide +kernel
theorem mjH_d11 : decode mjQ_charAt.2.1 11 = .ok (.iload_n 1, 1) := by decide +kernel
theorem mjH_d12 : decode mjQ_charAt.2.1 12 = .ok (.invokestatic 495, 3) := by decide +kernel
theorem mjH_d15 : decode mjQ_charAt.2.1 15 = .ok (.ireturn, 1) := by decide +kernel
set_option maxHeartbeats 4000000 in
theorem mMet_charAt (l : Launch) (g : mG) (d i : Nat) (hd : 5 ≤ d) (hi : i < 8) {ix b : Int32} (h0 : ¬ ix < 0) (hb : ((mjByt[i]?).getD [])[ix.toNatClampNeg]? = some b) (M : mHe) : Met l yJ0_charAt_5068e (mjMw mjQ_charAt :: mjT) (mRm d 0 0) (mPc g [.ref (1 + i), .int ix] M) (mQ g (some (.int b)) M) 0 0 (gO g) := by
  have hb0 : (mjByt.getD i [])[ix.toNatClampNeg]? = some b := by rw [List.getD_eq_getElem?_getD]; exact hb
  have hmem : mjByt.getD i [] ∈ mjByt := by
    have h8 : mjByt.length = 8 := rfl
    rw [List.getD_eq_getElem?_getD, List.getElem?_eq_getElem (by omega)]
    exact List.getElem_mem _
  obtain ⟨hc1, hc2⟩ := mjChr _ hmem b (List.mem_of_getElem? hb0)
  refine mMet (q := mjQ_charAt) (by decide +kernel) rfl (Nat.le_of_ble_eq_true rfl) ?_
  intro p e s m below meth c ls F hD hl
  obtain ⟨hx, hb, hml, hown, hts, hr, hlk, hnm, hfr, hlo⟩ := id F
  obtain ⟨hsz, hP, hS, hX, hcl, hsl, hz⟩ := id hD
  have hl2 : lv_has ls 2 [(0, .ref (gK g i)), (1, .int ix)] := by
    have h : mTl g (lv_args 0 [.ref (1 + i), .int ix]) = [(0, .ref (gK g i)), (1, .int ix)] := by
      show [(0, Value.ref (mAd g (1 + i))), (1, .int ix)] = _
      rw [mAdS hi]
    rw [h] at hl
    exact hl
  refine lv_aload_n hx hb mjH_d0 rfl (lv_at hl2 0 rfl) ?_
  obtain ⟨cellB, hcB, hoB, hclB, -⟩ := (hX.2.2.2.1.1 i hi).1
  have hPre := mPreS (vs := [.ref (1 + i)]) hD
  have e0 : mTs g [.ref (1 + i)] = [.ref (gK g i)] := by
    show [Value.ref (mAd g (1 + i))] = _
    rw [mAdS hi]
  rw [e0] at hPre
  have hG : GoodIn mjT (wsV RJ0 492 RJ0 yJ0_isLatin1_aae02 (mjMw mjQ_isLatin1 :: mjT)) := mGood (fun w hw => by
    rcases List.mem_append.mp hw with h | h
    · exact mjK_seg (a := []) (b := mjKw.drop 4) rfl h
    · rcases List.mem_cons.mp h with rfl | h
      · exact mjQ_isLatin1_in
      · exact h)
  have hR := va_runV (R := mRm d 0 0) (cells := 0) (slots := 0) (C := RJ0) (b := gK g i) (As := []) (rest := []) (g := F0 m 1 ls [.ref (gK g i)]) (mc := 0) (ms := 0) (below := below) (meth := meth) (e := e) (H := s.heap) (locs := []) ⟨hx, hb, hml, hown, hts⟩ (mMet_isL l g 1 i hi M) (cwV 0 hts hG rfl rfl rfl (by decide +kernel) ⟨by show 1 + 1 ≤ d; omega, by show 8 + (1 + 11) + 300 * 1 ≤ 300 * d; omega⟩) ⟨hPre.1, ⟨cellB, hcB, hoB, hclB⟩, hPre.2⟩ rfl rfl hl2.1 rfl (lv_room (by decide)) mjH_d1 ⟨by show 0 + 0 ≤ 0; omega, by show 0 + 0 ≤ 0; omega⟩
  refine mRunW hR hD (by omega) (by omega) (fun H1 locs1 hD1 => ?_)
  obtain ⟨hsz1, hP1, hS1, hX1, hcl1, hsl1, hz1⟩ := id hD1
  refine lv_if_eq (tgt := 16) hx hb mjH_d4 (by decide) (fun z => absurd z (by decide)) (fun _ => ?_)
  refine lv_aload_n hx hb mjH_d7 rfl (lv_at hl2 0 rfl) ?_
  refine vk_getf hx hb (hX.2.2.2.1.1 i hi).2.2.1 hS1 hown (hts _ (mjJw_in _ (List.mem_of_getElem? (i := 2) rfl))) (fun x h => h) mjH_d8 ?_
  refine lv_iload_n hx hb mjH_d11 rfl (lv_at hl2 1 rfl) ?_
  have hG2 : GoodIn mjT (va_wsS RJ0 495 mjQ_l1charAt.1 (mjMw mjQ_l1charAt :: mjT)) := mGood (fun w hw => by
    rcases List.mem_append.mp hw with h | h
    · exact mjK_seg (a := mjKw.take 4) (b := mjKw.drop 7) rfl h
    · rcases List.mem_cons.mp h with rfl | h
      · exact mjQ_l1charAt_in
      · exact h)
  have hR2 := va_runS (R := mRm d 0 0) (cells := 0 + 0) (slots := 0 + 0) (As := [.ref (gV g i), .int ix]) (rest := []) (g := F0 m 12 ls [.int ix, .ref (gV g i)]) (mc := 0) (ms := 0) (below := below) (meth := meth) (e := e) (H := H1) (locs := locs1) ⟨hx, hb, hml, hown, hts⟩ (mMet_l1 l g 2 i (Nat.le_refl 2) hi h0 hb0 M) (va_cwS 2 hts hG2 rfl rfl rfl (by decide +kernel) ⟨by show 2 + 1 ≤ d; omega, by show 8 + (2 + 11) + 300 * 2 ≤ 300 * d; omega⟩) (mPreR hD1) rfl rfl hl2.1 rfl (lv_room (by decide)) mjH_d12 ⟨by show 0 + 0 + 0 ≤ 0; omega, by show 0 + 0 + 0 ≤ 0; omega⟩
  refine mRunW hR2 hD1 (by omega) (by omega) (fun H2 locs2 hD2 => ?_)
  exact mRet (st := [.int b]) (q := mjQ_charAt) F hD2 mjH_d15 (by simp [mOp7, mjQ_charAt, hc2])
