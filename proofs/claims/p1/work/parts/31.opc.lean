/-! CALLS AND ENDS; a step -/
section AOKC
variable {E : List Int} {cs : aC} {own nL y pc d : Nat} {al : List (Nat × aV)} {ast : List aV} {h : aHe} {lv : List (Nat × Value)} {st : List Value} {M : mHe} {e : aIn} {brs : List (aC × aRs)} {fr : mFr} {G : List (List Nat)} {ini : Bool} {sa : aSc} {sc : Option (Nat × (Nat → Int32))}
theorem aCall_ok {rest vs : List aV} {rest' vs' : List Value} (hE : xE E cs) (hL : xL E al lv) (hS : xS E rest rest') (hV : xS E vs vs') (hq : ∃ q, mjM e.2.2.2.1 = some q ∧ q.2.2.1 = e.2.2.2.2.2.2.1 ∧ q.2.2.2.2 = e.2.2.2.2.2.2.2) (hr : aCall e cs y pc al rest vs = some brs) :
    ∃ b ∈ brs, xE E b.1 ∧ xR E (mCall y pc lv rest' M e.2.2.2.1 vs') fr M b.2 := by
  obtain ⟨i, n, kd, y', v, np, mx, oc⟩ := e
  obtain ⟨q, hq1, hq2, hq3⟩ := hq
  simp only at hq1 hq2 hq3 ⊢
  unfold aCall at hr
  simp only at hr
  cases hb : (Nat.ble (aCats rest) 8 && Nat.ble (aCats vs) mx && Nat.ble mx 100 && !(Nat.beq oc 13))
  · rw [hb] at hr; cases hr
  · rw [hb, cond_true] at hr
    rw [Bool.and_eq_true, Bool.and_eq_true, Bool.and_eq_true, Nat.ble_eq, Nat.ble_eq, Nat.ble_eq] at hb
    obtain ⟨⟨⟨b1, b2⟩, b3⟩, b4⟩ := hb
    cases hr
    have h13 : q.2.2.2.2 ≠ 13 := by
      rw [hq3]
      intro z
      rw [z] at b4
      cases b4
    refine ⟨_, List.mem_cons_self, hE, vs', lv, rest', ?_, hV, hL, hS⟩
    unfold mCall
    rw [hq1]
    simp only
    rw [if_pos ⟨by rw [xS_cats hS]; exact b1, by rw [lg_sl_cat, xS_cats hV, hq2]; exact b2, by rw [hq2]; exact b3, h13⟩]
set_option maxHeartbeats 4000000 in
theorem aOp6_ok (hE : xE E cs) (hL : xL E al lv) (hS : xS E ast st) (hH : xH E h M) (hk : aChk own e = true) (hr : aOp6 d e cs y pc al ast h = some brs) : ∃ b ∈ brs, xE E b.1 ∧ xR E (mOp6 d own y pc e.2.1 lv st M e.1) fr M b.2 := by
  unfold aOp6 at hr
  split at hr
  · -- virtual
    next idx y' v np mx oc =>
    obtain ⟨o1, o2, hR, hC⟩ := aChk_R (k := idx) rfl hk (by simp)
    obtain ⟨hnp, hq⟩ := hC (Nat.le_refl _) (by show 1 ≤ 5; omega)
    have hst := xS_take np hS
    split at hr
    · next r b1 b2 rest hdrop =>
      cases hb : (Nat.ble 9 r && Nat.ble np ast.length)
      · rw [hb] at hr; cases hr
      · rw [hb, cond_true] at hr
        rw [Bool.and_eq_true, Nat.ble_eq, Nat.ble_eq] at hb
        rw [hdrop] at hst
        obtain ⟨c, m, hd, h3, h4⟩ := xS_cons hst.2
        have h3 : c = .ref r := h3
        subst h3
        split at hr
        · next ci fs hg =>
          cases hb2 : Nat.beq ci oc
          · rw [hb2] at hr; cases hr
          · rw [hb2, cond_true] at hr
            have hci := Nat.eq_of_beq_eq_true hb2
            obtain ⟨mc, hm, hcc⟩ := hH.2 _ _ hg
            obtain ⟨fs', rfl, hfs⟩ := xC_obj hcc
            obtain ⟨q, hq1, hq2, hq3⟩ := id hq
            have hlen : np ≤ st.length := by rw [← xS_len hS]; exact hb.2
            have hci2 : ci = q.2.2.2.2 := by rw [hq3]; exact hci
            have hnp : mNp y' = some np := hnp
            have hq1 : mjM y' = some q := hq1
            have hf : mOp6 d own y pc 3 lv st M (.invokevirtual idx) = mCall y pc lv m M y' (.ref r :: (st.take np).reverse) := by
              simp only [mOp6, if_true, hR, hnp, hd]
              rw [if_pos ⟨hb.1, hlen⟩]
              simp only [hm, hq1]
              rw [if_pos hci2]
            rw [hf]
            exact aCall_ok hE hL h4 (xS_mk (a := kR r) rfl (xS_rev hst.1)) hq hr
        · cases hr
    · cases hr
  · -- length
    next idx rest0 =>
    obtain ⟨o1, o2, hR, -⟩ := aChk_R (k := idx) rfl hk (by simp)
    split at hr
    · next r b1 b2 rest =>
      obtain ⟨c, m, rfl, h3, h4⟩ := xS_cons hS
      have h3 : c = .ref r := h3
      subst h3
      cases hb : (Nat.ble 1 r && Nat.blt r 9 && Nat.ble (aCats rest) 8 && Nat.ble 3 d)
      · rw [hb] at hr; cases hr
      · rw [hb, cond_true] at hr
        rw [Bool.and_eq_true, Bool.and_eq_true, Bool.and_eq_true, Nat.ble_eq, Nat.blt_eq, Nat.ble_eq, Nat.ble_eq] at hb
        obtain ⟨⟨⟨c1, c2⟩, c3⟩, c4⟩ := hb
        split at hr
        · next k hk2 =>
          have hlt : ∀ k ∈ mjLen, k < 2 ^ 31 := by decide
          refine aGo_ok hr hE ?_ hL (xS_mk (xV_kI E (Int32.toInt_ofNat_of_lt (hlt k (List.mem_of_getElem? hk2)))) h4) hH
          simp only [mOp6, if_true, hR]
          rw [if_pos ⟨c1, c2, by rw [xS_cats h4]; exact c3, c4⟩]
          simp only [hk2]
        · cases hr
    · cases hr
  · -- static
    next idx y' v np r0 =>
    obtain ⟨o1, o2, hR, hC⟩ := aChk_R (k := idx) rfl hk (by simp)
    obtain ⟨hnp, hq⟩ := hC (by show 1 ≤ 2; omega) (by show 2 ≤ 5; omega)
    have hst := xS_take np hS
    cases hb : Nat.ble np ast.length
    · rw [hb] at hr; cases hr
    · rw [hb, cond_true] at hr
      rw [Nat.ble_eq] at hb
      have hlen : np ≤ st.length := by rw [← xS_len hS]; exact hb
      have hnp : mNp y' = some np := hnp
      have hf : mOp6 d own y pc 3 lv st M (.invokestatic idx) = mCall y pc lv (st.drop np) M y' (st.take np).reverse := by
        simp only [mOp6, if_true, hR, hnp]
        rw [if_pos hlen]
      rw [hf]
      exact aCall_ok hE hL hst.2 (xS_rev hst.1) hq hr
  · -- static of a nest mate
    next idx y' v np r0 =>
    obtain ⟨o1, o2, hR, hC⟩ := aChk_R (k := idx) rfl hk (by simp)
    obtain ⟨hnp, hq⟩ := hC (by show 1 ≤ 3; omega) (by show 3 ≤ 5; omega)
    have hst := xS_take np hS
    cases hb : Nat.ble np ast.length
    · rw [hb] at hr; cases hr
    · rw [hb, cond_true] at hr
      rw [Nat.ble_eq] at hb
      have hlen : np ≤ st.length := by rw [← xS_len hS]; exact hb
      have hnp : mNp y' = some np := hnp
      have hf : mOp6 d own y pc 3 lv st M (.invokestatic idx) = mCall y pc lv (st.drop np) M y' (st.take np).reverse := by
        simp only [mOp6, if_true, hR, hnp]
        rw [if_pos hlen]
      rw [hf]
      exact aCall_ok hE hL hst.2 (xS_rev hst.1) hq hr
  · -- max
    next idx r0 =>
    obtain ⟨o1, o2, hR, -⟩ := aChk_R (k := idx) rfl hk (by simp)
    split at hr
    · next b a rest =>
      cases hb : (aIsI a && aIsI b && Nat.ble (aCats rest) 8 && Nat.ble 1 d)
      · rw [hb] at hr; cases hr
      · rw [hb, cond_true] at hr
        rw [Bool.and_eq_true, Bool.and_eq_true, Bool.and_eq_true, Nat.ble_eq, Nat.ble_eq] at hb
        obtain ⟨⟨⟨c1, c2⟩, c3⟩, c4⟩ := hb
        obtain ⟨c, m, rfl, h1, h2⟩ := xS_cons hS
        obtain ⟨c0, m2, rfl, h3, h4⟩ := xS_cons h2
        obtain ⟨x, rfl⟩ := xV_int c2 h1
        obtain ⟨z, rfl⟩ := xV_int c1 h3
        simp only [Option.some.injEq] at hr
        subst hr
        have hf : mOp6 d own y pc 3 lv (.int x :: .int z :: m2) M (.invokestatic idx) = mGo y (pc + 3) lv (.int (if z < x then x else z) :: m2) M := by
          simp only [mOp6, if_true, hR]
          rw [if_pos ⟨by rw [xS_cats h4]; exact c3, c4⟩]
        by_cases hlt : z < x
        · rw [if_pos hlt] at hf
          have := Int32.lt_iff_toInt_lt.mp hlt
          obtain ⟨c', hc1, hc2⟩ := aLe_ok hE (xN_int h3) (xN_int h1) (d := -1) (by omega)
          exact aTo_l (aTo_ok hc1 hc2 hf hL (xS_mk h1 h4) hH)
        · rw [if_neg hlt] at hf
          have : ¬ z.toInt < x.toInt := fun q => hlt (Int32.lt_iff_toInt_lt.mpr q)
          obtain ⟨c', hc1, hc2⟩ := aLe_ok hE (xN_int h1) (xN_int h3) (d := 0) (by omega)
          exact aTo_r (aTo_ok hc1 hc2 hf hL (xS_mk h3 h4) hH)
    · cases hr
  · -- min
    next idx r0 =>
    obtain ⟨o1, o2, hR, -⟩ := aChk_R (k := idx) rfl hk (by simp)
    split at hr
    · next b a rest =>
      cases hb : (aIsI a && aIsI b && Nat.ble (aCats rest) 8 && Nat.ble 1 d)
      · rw [hb] at hr; cases hr
      · rw [hb, cond_true] at hr
        rw [Bool.and_eq_true, Bool.and_eq_true, Bool.and_eq_true, Nat.ble_eq, Nat.ble_eq] at hb
        obtain ⟨⟨⟨c1, c2⟩, c3⟩, c4⟩ := hb
        obtain ⟨c, m, rfl, h1, h2⟩ := xS_cons hS
        obtain ⟨c0, m2, rfl, h3, h4⟩ := xS_cons h2
        obtain ⟨x, rfl⟩ := xV_int c2 h1
        obtain ⟨z, rfl⟩ := xV_int c1 h3
        simp only [Option.some.injEq] at hr
        subst hr
        have hf : mOp6 d own y pc 3 lv (.int x :: .int z :: m2) M (.invokestatic idx) = mGo y (pc + 3) lv (.int (if x < z then x else z) :: m2) M := by
          simp only [mOp6, if_true, hR]
          rw [if_pos ⟨by rw [xS_cats h4]; exact c3, c4⟩]
        by_cases hlt : x < z
        · rw [if_pos hlt] at hf
          have := Int32.lt_iff_toInt_lt.mp hlt
          obtain ⟨c', hc1, hc2⟩ := aLe_ok hE (xN_int h1) (xN_int h3) (d := -1) (by omega)
          exact aTo_l (aTo_ok hc1 hc2 hf hL (xS_mk h1 h4) hH)
        · rw [if_neg hlt] at hf
          have : ¬ x.toInt < z.toInt := fun q => hlt (Int32.lt_iff_toInt_lt.mpr q)
          obtain ⟨c', hc1, hc2⟩ := aLe_ok hE (xN_int h3) (xN_int h1) (d := 0) (by omega)
          exact aTo_r (aTo_ok hc1 hc2 hf hL (xS_mk h3 h4) hH)
    · cases hr
  · -- special
    next idx y' v np r0 =>
    obtain ⟨o1, o2, hR, hC⟩ := aChk_R (k := idx) rfl hk (by simp)
    obtain ⟨hnp, hq⟩ := hC (by show 1 ≤ 4; omega) (by show 4 ≤ 5; omega)
    have hst := xS_take np hS
    split at hr
    · next r b1 b2 rest hdrop =>
      cases hb : Nat.ble np ast.length
      · rw [hb] at hr; cases hr
      · rw [hb, cond_true] at hr
        rw [Nat.ble_eq] at hb
        rw [hdrop] at hst
        obtain ⟨c, m, hd, h3, h4⟩ := xS_cons hst.2
        have h3 : c = .ref r := h3
        subst h3
        have hlen : np ≤ st.length := by rw [← xS_len hS]; exact hb
        have hnp : mNp y' = some np := hnp
        have hf : mOp6 d own y pc 3 lv st M (.invokespecial idx) = mCall y pc lv m M y' (.ref r :: (st.take np).reverse) := by
          simp only [mOp6, if_true, hR, hnp, hd]
          rw [if_pos hlen]
        rw [hf]
        exact aCall_ok hE hL h4 (xS_mk (a := kR r) rfl (xS_rev hst.1)) hq hr
    · cases hr
  · -- special of a nest mate
    next idx y' v np r0 =>
    obtain ⟨o1, o2, hR, hC⟩ := aChk_R (k := idx) rfl hk (by simp)
    obtain ⟨hnp, hq⟩ := hC (by show 1 ≤ 5; omega) (Nat.le_refl _)
    have hst := xS_take np hS
    split at hr
    · next r b1 b2 rest hdrop =>
      cases hb : Nat.ble np ast.length
      · rw [hb] at hr; cases hr
      · rw [hb, cond_true] at hr
        rw [Nat.ble_eq] at hb
        rw [hdrop] at hst
        obtain ⟨c, m, hd, h3, h4⟩ := xS_cons hst.2
        have h3 : c = .ref r := h3
        subst h3
        have hlen : np ≤ st.length := by rw [← xS_len hS]; exact hb
        have hnp : mNp y' = some np := hnp
        have hf : mOp6 d own y pc 3 lv st M (.invokespecial idx) = mCall y pc lv m M y' (.ref r :: (st.take np).reverse) := by
          simp only [mOp6, if_true, hR, hnp, hd]
          rw [if_pos hlen]
        rw [hf]
        exact aCall_ok hE hL h4 (xS_mk (a := kR r) rfl (xS_rev hst.1)) hq hr
    · cases hr
  · -- Object's
    next idx r0 =>
    obtain ⟨o1, o2, hR, -⟩ := aChk_R (k := idx) rfl hk (by simp)
    split at hr
    · next r b1 b2 rest =>
      cases hb : (Nat.ble (aCats rest) 8 && Nat.ble 1 d)
      · rw [hb] at hr; cases hr
      · rw [hb, cond_true] at hr
        rw [Bool.and_eq_true, Nat.ble_eq, Nat.ble_eq] at hb
        obtain ⟨c, m, rfl, h3, h4⟩ := xS_cons hS
        have h3 : c = .ref r := h3
        subst h3
        refine aGo_ok hr hE ?_ hL h4 hH
        simp only [mOp6, if_true, hR]
        rw [if_pos ⟨by rw [xS_cats h4]; exact hb.1, hb.2⟩]
    · cases hr
  · cases hr
theorem aOp7_ok {rt : Option FieldType} (hE : xE E cs) (hS : xS E ast st) (hr : aOp7 rt e cs ast = some brs) : ∃ b ∈ brs, xE E b.1 ∧ xR E (mOp7 rt e.2.1 st e.1) fr M b.2 := by
  obtain ⟨i, n, rest⟩ := e
  unfold aOp7 at hr
  simp only at hr ⊢
  split at hr
  · next v =>
    cases hb : aIsI v
    · rw [hb] at hr; cases hr
    · rw [hb, cond_true] at hr
      cases hr
      obtain ⟨c, m, rfl, h3, h4⟩ := xS_cons hS
      obtain ⟨x, rfl⟩ := xV_int hb h3
      have := xS_nil h4
      subst this
      refine ⟨_, List.mem_cons_self, hE, some (.int x), ?_, h3⟩
      simp only [mOp7, if_true]
      rw [if_pos (show narrow .int (.int x) = .int x from rfl)]
  · next v =>
    cases hb : aFit cs .boolean v
    · rw [hb] at hr; cases hr
    · rw [hb, cond_true] at hr
      cases hr
      obtain ⟨c, m, rfl, h3, h4⟩ := xS_cons hS
      have hf := aFit_ok hE h3 hb
      have hb2 : (aIsI v && (match aBd cs v with
        | (l, h) => ile 0 l && ile h 1)) = true := hb
      rw [Bool.and_eq_true] at hb2
      obtain ⟨x, rfl⟩ := xV_int hb2.1 h3
      have := xS_nil h4
      subst this
      have hf2 : (x == 0 || x == 1) = true := hf
      simp only [Bool.or_eq_true, beq_iff_eq] at hf2
      refine ⟨_, List.mem_cons_self, hE, some (.int x), ?_, h3⟩
      simp only [mOp7, if_true]
      have h0 : narrow .boolean (.int 0) = .int 0 := by decide +kernel
      have h1 : narrow .boolean (.int 1) = .int 1 := by decide +kernel
      rcases hf2 with rfl | rfl
      · rw [if_pos h0]
      · rw [if_pos h1]
  · cases hr
    have := xS_nil hS
    subst this
    exact ⟨_, List.mem_cons_self, hE, none, by simp only [mOp7, if_true], trivial⟩
  · next r b1 b2 nm =>
    cases hr
    obtain ⟨c, m, rfl, h3, h4⟩ := xS_cons hS
    have h3 : c = .ref r := h3
    subst h3
    have := xS_nil h4
    subst this
    exact ⟨_, List.mem_cons_self, hE, some (.ref r), by simp only [mOp7, if_true], rfl⟩
  · cases hr
end AOKC
